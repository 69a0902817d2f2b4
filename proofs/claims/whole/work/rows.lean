section
-- ===== PART A: goes FIRST, ahead of the names: the tables' words, and 'selects' of the private methods out of them =====
/-- a private method of a class that the tables say can be made, by its rows of tables_1 -/
def lw_okq (q : MethodName × Nat) : Prop := (q.1.cls ≠ "java/lang/invoke/MethodHandle" ∧ q.1.cls ≠ "java/lang/invoke/VarHandle") ∧ Cond.instantiable q.1.cls q.2 ∈ tables_1 ∧ Cond.privateMethod q.1 ∈ tables_1 ∧ Cond.instanceMethod q.1 ∈ tables_1
theorem lw_p0 : lw_okq (⟨"ShadowRowDesk$Row", "reckonAll", "()V"⟩, 8) := ⟨⟨by decide +kernel, by decide +kernel⟩, List.mem_of_getElem? (i := 122) (by decide +kernel), List.mem_of_getElem? (i := 132) (by decide +kernel), List.mem_of_getElem? (i := 133) (by decide +kernel)⟩
theorem lw_p1 : lw_okq (⟨"ShadowRowDesk$Reckoner", "lower", "([I)V"⟩, 8) := ⟨⟨by decide +kernel, by decide +kernel⟩, List.mem_of_getElem? (i := 21) (by decide +kernel), List.mem_of_getElem? (i := 149) (by decide +kernel), List.mem_of_getElem? (i := 150) (by decide +kernel)⟩
theorem lw_p2 : lw_okq (⟨"ShadowRowDesk$Text", "toNextToken", "()V"⟩, 8) := ⟨⟨by decide +kernel, by decide +kernel⟩, List.mem_of_getElem? (i := 65) (by decide +kernel), List.mem_of_getElem? (i := 306) (by decide +kernel), List.mem_of_getElem? (i := 307) (by decide +kernel)⟩
theorem lw_p3 : lw_okq (⟨"ShadowRowDesk$Text", "standsSum", "(I)Z"⟩, 8) := ⟨⟨by decide +kernel, by decide +kernel⟩, List.mem_of_getElem? (i := 65) (by decide +kernel), List.mem_of_getElem? (i := 313) (by decide +kernel), List.mem_of_getElem? (i := 314) (by decide +kernel)⟩
theorem lw_p4 : lw_okq (⟨"ShadowRowDesk$Text", "standsProduct", "(I)Z"⟩, 8) := ⟨⟨by decide +kernel, by decide +kernel⟩, List.mem_of_getElem? (i := 65) (by decide +kernel), List.mem_of_getElem? (i := 317) (by decide +kernel), List.mem_of_getElem? (i := 318) (by decide +kernel)⟩
theorem lw_p5 : lw_okq (⟨"ShadowRowDesk$Text", "standsPower", "(I)Z"⟩, 8) := ⟨⟨by decide +kernel, by decide +kernel⟩, List.mem_of_getElem? (i := 65) (by decide +kernel), List.mem_of_getElem? (i := 321) (by decide +kernel), List.mem_of_getElem? (i := 322) (by decide +kernel)⟩
theorem lw_p6 : lw_okq (⟨"ShadowRowDesk$Text", "standsThing", "(I)Z"⟩, 8) := ⟨⟨by decide +kernel, by decide +kernel⟩, List.mem_of_getElem? (i := 65) (by decide +kernel), List.mem_of_getElem? (i := 325) (by decide +kernel), List.mem_of_getElem? (i := 326) (by decide +kernel)⟩
theorem lw_p7 : lw_okq (⟨"ShadowRowDesk$Text", "addStep", "(II)V"⟩, 8) := ⟨⟨by decide +kernel, by decide +kernel⟩, List.mem_of_getElem? (i := 65) (by decide +kernel), List.mem_of_getElem? (i := 329) (by decide +kernel), List.mem_of_getElem? (i := 330) (by decide +kernel)⟩
theorem lw_p8 : lw_okq (⟨"ShadowRowDesk$Text", "isNumber", "()Z"⟩, 8) := ⟨⟨by decide +kernel, by decide +kernel⟩, List.mem_of_getElem? (i := 65) (by decide +kernel), List.mem_of_getElem? (i := 333) (by decide +kernel), List.mem_of_getElem? (i := 334) (by decide +kernel)⟩
theorem lw_p9 : lw_okq (⟨"ShadowRowDesk$Text", "amount", "()I"⟩, 8) := ⟨⟨by decide +kernel, by decide +kernel⟩, List.mem_of_getElem? (i := 65) (by decide +kernel), List.mem_of_getElem? (i := 337) (by decide +kernel), List.mem_of_getElem? (i := 338) (by decide +kernel)⟩
theorem lw_p10 : lw_okq (⟨"ShadowRowDesk$Reader", "goStep", "(II)Z"⟩, 4) := ⟨⟨by decide +kernel, by decide +kernel⟩, List.mem_of_getElem? (i := 100) (by decide +kernel), List.mem_of_getElem? (i := 358) (by decide +kernel), List.mem_of_getElem? (i := 359) (by decide +kernel)⟩
theorem lw_p11 : lw_okq (⟨"ShadowRowDesk$Reader", "pushMonomial", "(II)Z"⟩, 4) := ⟨⟨by decide +kernel, by decide +kernel⟩, List.mem_of_getElem? (i := 100) (by decide +kernel), List.mem_of_getElem? (i := 362) (by decide +kernel), List.mem_of_getElem? (i := 363) (by decide +kernel)⟩
theorem lw_p12 : lw_okq (⟨"ShadowRowDesk$Reader", "joinTwo", "(I)Z"⟩, 4) := ⟨⟨by decide +kernel, by decide +kernel⟩, List.mem_of_getElem? (i := 100) (by decide +kernel), List.mem_of_getElem? (i := 367) (by decide +kernel), List.mem_of_getElem? (i := 368) (by decide +kernel)⟩
theorem lw_p13 : lw_okq (⟨"ShadowRowDesk$Reader", "toPower", "([II)Z"⟩, 4) := ⟨⟨by decide +kernel, by decide +kernel⟩, List.mem_of_getElem? (i := 100) (by decide +kernel), List.mem_of_getElem? (i := 381) (by decide +kernel), List.mem_of_getElem? (i := 382) (by decide +kernel)⟩
theorem lw_p14 : lw_okq (⟨"ShadowRowDesk$Reader", "turn", "(I[I)Z"⟩, 4) := ⟨⟨by decide +kernel, by decide +kernel⟩, List.mem_of_getElem? (i := 100) (by decide +kernel), List.mem_of_getElem? (i := 386) (by decide +kernel), List.mem_of_getElem? (i := 387) (by decide +kernel)⟩
theorem lw_p15 : lw_okq (⟨"ShadowRowDesk$Reader", "seriesOf", "(I)[I"⟩, 4) := ⟨⟨by decide +kernel, by decide +kernel⟩, List.mem_of_getElem? (i := 100) (by decide +kernel), List.mem_of_getElem? (i := 394) (by decide +kernel), List.mem_of_getElem? (i := 395) (by decide +kernel)⟩
def lw_privs_1 : List (MethodName × Nat) := [(⟨"ShadowRowDesk$Row", "reckonAll", "()V"⟩, 8), (⟨"ShadowRowDesk$Reckoner", "lower", "([I)V"⟩, 8), (⟨"ShadowRowDesk$Text", "toNextToken", "()V"⟩, 8), (⟨"ShadowRowDesk$Text", "standsSum", "(I)Z"⟩, 8), (⟨"ShadowRowDesk$Text", "standsProduct", "(I)Z"⟩, 8), (⟨"ShadowRowDesk$Text", "standsPower", "(I)Z"⟩, 8), (⟨"ShadowRowDesk$Text", "standsThing", "(I)Z"⟩, 8), (⟨"ShadowRowDesk$Text", "addStep", "(II)V"⟩, 8), (⟨"ShadowRowDesk$Text", "isNumber", "()Z"⟩, 8), (⟨"ShadowRowDesk$Text", "amount", "()I"⟩, 8), (⟨"ShadowRowDesk$Reader", "goStep", "(II)Z"⟩, 4), (⟨"ShadowRowDesk$Reader", "pushMonomial", "(II)Z"⟩, 4), (⟨"ShadowRowDesk$Reader", "joinTwo", "(I)Z"⟩, 4), (⟨"ShadowRowDesk$Reader", "toPower", "([II)Z"⟩, 4), (⟨"ShadowRowDesk$Reader", "turn", "(I[I)Z"⟩, 4), (⟨"ShadowRowDesk$Reader", "seriesOf", "(I)[I"⟩, 4)]
theorem lw_r1 : ∀ q ∈ lw_privs_1, lw_okq q := List.forall_mem_cons.mpr ⟨lw_p0, List.forall_mem_cons.mpr ⟨lw_p1, List.forall_mem_cons.mpr ⟨lw_p2, List.forall_mem_cons.mpr ⟨lw_p3, List.forall_mem_cons.mpr ⟨lw_p4, List.forall_mem_cons.mpr ⟨lw_p5, List.forall_mem_cons.mpr ⟨lw_p6, List.forall_mem_cons.mpr ⟨lw_p7, List.forall_mem_cons.mpr ⟨lw_p8, List.forall_mem_cons.mpr ⟨lw_p9, List.forall_mem_cons.mpr ⟨lw_p10, List.forall_mem_cons.mpr ⟨lw_p11, List.forall_mem_cons.mpr ⟨lw_p12, List.forall_mem_cons.mpr ⟨lw_p13, List.forall_mem_cons.mpr ⟨lw_p14, List.forall_mem_cons.mpr ⟨lw_p15, fun _ h => absurd h List.not_mem_nil⟩⟩⟩⟩⟩⟩⟩⟩⟩⟩⟩⟩⟩⟩⟩⟩
theorem lw_p16 : lw_okq (⟨"ShadowRowDeskModel", "reads", "()Z"⟩, 37) := ⟨⟨by decide +kernel, by decide +kernel⟩, List.mem_of_getElem? (i := 612) (by decide +kernel), List.mem_of_getElem? (i := 746) (by decide +kernel), List.mem_of_getElem? (i := 747) (by decide +kernel)⟩
theorem lw_p17 : lw_okq (⟨"ShadowRowDeskModel", "readsSum", "()I"⟩, 37) := ⟨⟨by decide +kernel, by decide +kernel⟩, List.mem_of_getElem? (i := 612) (by decide +kernel), List.mem_of_getElem? (i := 750) (by decide +kernel), List.mem_of_getElem? (i := 751) (by decide +kernel)⟩
theorem lw_p18 : lw_okq (⟨"ShadowRowDeskModel", "begins", "(I)V"⟩, 37) := ⟨⟨by decide +kernel, by decide +kernel⟩, List.mem_of_getElem? (i := 612) (by decide +kernel), List.mem_of_getElem? (i := 754) (by decide +kernel), List.mem_of_getElem? (i := 755) (by decide +kernel)⟩
theorem lw_p19 : lw_okq (⟨"ShadowRowDeskModel", "sign", "()I"⟩, 37) := ⟨⟨by decide +kernel, by decide +kernel⟩, List.mem_of_getElem? (i := 612) (by decide +kernel), List.mem_of_getElem? (i := 758) (by decide +kernel), List.mem_of_getElem? (i := 759) (by decide +kernel)⟩
theorem lw_p20 : lw_okq (⟨"ShadowRowDeskModel", "endsProduct", "()V"⟩, 37) := ⟨⟨by decide +kernel, by decide +kernel⟩, List.mem_of_getElem? (i := 612) (by decide +kernel), List.mem_of_getElem? (i := 762) (by decide +kernel), List.mem_of_getElem? (i := 763) (by decide +kernel)⟩
theorem lw_p21 : lw_okq (⟨"ShadowRowDeskModel", "endsPower", "()V"⟩, 37) := ⟨⟨by decide +kernel, by decide +kernel⟩, List.mem_of_getElem? (i := 612) (by decide +kernel), List.mem_of_getElem? (i := 766) (by decide +kernel), List.mem_of_getElem? (i := 767) (by decide +kernel)⟩
theorem lw_p22 : lw_okq (⟨"ShadowRowDeskModel", "multiplies", "([II[II[I)V"⟩, 37) := ⟨⟨by decide +kernel, by decide +kernel⟩, List.mem_of_getElem? (i := 612) (by decide +kernel), List.mem_of_getElem? (i := 773) (by decide +kernel), List.mem_of_getElem? (i := 774) (by decide +kernel)⟩
theorem lw_p23 : lw_okq (⟨"ShadowRowDeskModel", "clears", "()V"⟩, 37) := ⟨⟨by decide +kernel, by decide +kernel⟩, List.mem_of_getElem? (i := 612) (by decide +kernel), List.mem_of_getElem? (i := 777) (by decide +kernel), List.mem_of_getElem? (i := 778) (by decide +kernel)⟩
theorem lw_p24 : lw_okq (⟨"ShadowRowDeskModel", "toMade", "([II)V"⟩, 37) := ⟨⟨by decide +kernel, by decide +kernel⟩, List.mem_of_getElem? (i := 612) (by decide +kernel), List.mem_of_getElem? (i := 787) (by decide +kernel), List.mem_of_getElem? (i := 788) (by decide +kernel)⟩
theorem lw_p25 : lw_okq (⟨"ShadowRowDeskModel", "divides", "([II[II[I)V"⟩, 37) := ⟨⟨by decide +kernel, by decide +kernel⟩, List.mem_of_getElem? (i := 612) (by decide +kernel), List.mem_of_getElem? (i := 791) (by decide +kernel), List.mem_of_getElem? (i := 792) (by decide +kernel)⟩
theorem lw_p26 : lw_okq (⟨"ShadowRowDeskModel", "readsThing", "(I)I"⟩, 37) := ⟨⟨by decide +kernel, by decide +kernel⟩, List.mem_of_getElem? (i := 612) (by decide +kernel), List.mem_of_getElem? (i := 801) (by decide +kernel), List.mem_of_getElem? (i := 802) (by decide +kernel)⟩
theorem lw_p27 : lw_okq (⟨"ShadowRowDeskModel", "figures", "()I"⟩, 37) := ⟨⟨by decide +kernel, by decide +kernel⟩, List.mem_of_getElem? (i := 612) (by decide +kernel), List.mem_of_getElem? (i := 808) (by decide +kernel), List.mem_of_getElem? (i := 809) (by decide +kernel)⟩
theorem lw_p28 : lw_okq (⟨"ShadowRowDeskModel", "numberOf", "(I)I"⟩, 37) := ⟨⟨by decide +kernel, by decide +kernel⟩, List.mem_of_getElem? (i := 612) (by decide +kernel), List.mem_of_getElem? (i := 812) (by decide +kernel), List.mem_of_getElem? (i := 813) (by decide +kernel)⟩
theorem lw_p29 : lw_okq (⟨"ShadowRowDeskModel", "sets", "(II)V"⟩, 37) := ⟨⟨by decide +kernel, by decide +kernel⟩, List.mem_of_getElem? (i := 612) (by decide +kernel), List.mem_of_getElem? (i := 816) (by decide +kernel), List.mem_of_getElem? (i := 817) (by decide +kernel)⟩
theorem lw_p30 : lw_okq (⟨"ShadowRowDeskModel", "readsBracket", "(I)I"⟩, 37) := ⟨⟨by decide +kernel, by decide +kernel⟩, List.mem_of_getElem? (i := 612) (by decide +kernel), List.mem_of_getElem? (i := 823) (by decide +kernel), List.mem_of_getElem? (i := 824) (by decide +kernel)⟩
theorem lw_p31 : lw_okq (⟨"ShadowRowDeskModel", "readsTimes", "(I)I"⟩, 37) := ⟨⟨by decide +kernel, by decide +kernel⟩, List.mem_of_getElem? (i := 612) (by decide +kernel), List.mem_of_getElem? (i := 827) (by decide +kernel), List.mem_of_getElem? (i := 828) (by decide +kernel)⟩
def lw_privs_2 : List (MethodName × Nat) := [(⟨"ShadowRowDeskModel", "reads", "()Z"⟩, 37), (⟨"ShadowRowDeskModel", "readsSum", "()I"⟩, 37), (⟨"ShadowRowDeskModel", "begins", "(I)V"⟩, 37), (⟨"ShadowRowDeskModel", "sign", "()I"⟩, 37), (⟨"ShadowRowDeskModel", "endsProduct", "()V"⟩, 37), (⟨"ShadowRowDeskModel", "endsPower", "()V"⟩, 37), (⟨"ShadowRowDeskModel", "multiplies", "([II[II[I)V"⟩, 37), (⟨"ShadowRowDeskModel", "clears", "()V"⟩, 37), (⟨"ShadowRowDeskModel", "toMade", "([II)V"⟩, 37), (⟨"ShadowRowDeskModel", "divides", "([II[II[I)V"⟩, 37), (⟨"ShadowRowDeskModel", "readsThing", "(I)I"⟩, 37), (⟨"ShadowRowDeskModel", "figures", "()I"⟩, 37), (⟨"ShadowRowDeskModel", "numberOf", "(I)I"⟩, 37), (⟨"ShadowRowDeskModel", "sets", "(II)V"⟩, 37), (⟨"ShadowRowDeskModel", "readsBracket", "(I)I"⟩, 37), (⟨"ShadowRowDeskModel", "readsTimes", "(I)I"⟩, 37)]
theorem lw_r2 : ∀ q ∈ lw_privs_2, lw_okq q := List.forall_mem_cons.mpr ⟨lw_p16, List.forall_mem_cons.mpr ⟨lw_p17, List.forall_mem_cons.mpr ⟨lw_p18, List.forall_mem_cons.mpr ⟨lw_p19, List.forall_mem_cons.mpr ⟨lw_p20, List.forall_mem_cons.mpr ⟨lw_p21, List.forall_mem_cons.mpr ⟨lw_p22, List.forall_mem_cons.mpr ⟨lw_p23, List.forall_mem_cons.mpr ⟨lw_p24, List.forall_mem_cons.mpr ⟨lw_p25, List.forall_mem_cons.mpr ⟨lw_p26, List.forall_mem_cons.mpr ⟨lw_p27, List.forall_mem_cons.mpr ⟨lw_p28, List.forall_mem_cons.mpr ⟨lw_p29, List.forall_mem_cons.mpr ⟨lw_p30, List.forall_mem_cons.mpr ⟨lw_p31, fun _ h => absurd h List.not_mem_nil⟩⟩⟩⟩⟩⟩⟩⟩⟩⟩⟩⟩⟩⟩⟩⟩
theorem lw_p32 : lw_okq (⟨"ShadowRowDeskModel", "raisesThing", "(I)V"⟩, 37) := ⟨⟨by decide +kernel, by decide +kernel⟩, List.mem_of_getElem? (i := 612) (by decide +kernel), List.mem_of_getElem? (i := 831) (by decide +kernel), List.mem_of_getElem? (i := 832) (by decide +kernel)⟩
theorem lw_p33 : lw_okq (⟨"ShadowRowDeskModel", "sofarOne", "()V"⟩, 37) := ⟨⟨by decide +kernel, by decide +kernel⟩, List.mem_of_getElem? (i := 612) (by decide +kernel), List.mem_of_getElem? (i := 835) (by decide +kernel), List.mem_of_getElem? (i := 836) (by decide +kernel)⟩
theorem lw_p34 : lw_okq (⟨"ShadowRowDeskModel", "readsOn", "(II)I"⟩, 37) := ⟨⟨by decide +kernel, by decide +kernel⟩, List.mem_of_getElem? (i := 612) (by decide +kernel), List.mem_of_getElem? (i := 839) (by decide +kernel), List.mem_of_getElem? (i := 840) (by decide +kernel)⟩
theorem lw_p35 : lw_okq (⟨"ShadowRowDeskModel", "closes", "()V"⟩, 37) := ⟨⟨by decide +kernel, by decide +kernel⟩, List.mem_of_getElem? (i := 612) (by decide +kernel), List.mem_of_getElem? (i := 843) (by decide +kernel), List.mem_of_getElem? (i := 844) (by decide +kernel)⟩
theorem lw_p36 : lw_okq (⟨"ShadowRowDeskModel", "turns", "([II[I)V"⟩, 37) := ⟨⟨by decide +kernel, by decide +kernel⟩, List.mem_of_getElem? (i := 612) (by decide +kernel), List.mem_of_getElem? (i := 850) (by decide +kernel), List.mem_of_getElem? (i := 851) (by decide +kernel)⟩
theorem lw_p37 : lw_okq (⟨"ShadowRowDeskModel", "puts", "([II[II[I)V"⟩, 37) := ⟨⟨by decide +kernel, by decide +kernel⟩, List.mem_of_getElem? (i := 612) (by decide +kernel), List.mem_of_getElem? (i := 854) (by decide +kernel), List.mem_of_getElem? (i := 855) (by decide +kernel)⟩
theorem lw_p38 : lw_okq (⟨"ShadowRowDeskModel", "makes", "(I[I)V"⟩, 37) := ⟨⟨by decide +kernel, by decide +kernel⟩, List.mem_of_getElem? (i := 612) (by decide +kernel), List.mem_of_getElem? (i := 861) (by decide +kernel), List.mem_of_getElem? (i := 862) (by decide +kernel)⟩
theorem lw_p39 : lw_okq (⟨"ShadowRowDeskModel", "becomes", "(I[I[I)I"⟩, 37) := ⟨⟨by decide +kernel, by decide +kernel⟩, List.mem_of_getElem? (i := 612) (by decide +kernel), List.mem_of_getElem? (i := 872) (by decide +kernel), List.mem_of_getElem? (i := 873) (by decide +kernel)⟩
theorem lw_p40 : lw_okq (⟨"ShadowRowDeskModel", "laysOne", "()V"⟩, 37) := ⟨⟨by decide +kernel, by decide +kernel⟩, List.mem_of_getElem? (i := 612) (by decide +kernel), List.mem_of_getElem? (i := 884) (by decide +kernel), List.mem_of_getElem? (i := 885) (by decide +kernel)⟩
theorem lw_p41 : lw_okq (⟨"ShadowRowDeskModel", "copiesRow", "(I)V"⟩, 37) := ⟨⟨by decide +kernel, by decide +kernel⟩, List.mem_of_getElem? (i := 612) (by decide +kernel), List.mem_of_getElem? (i := 892) (by decide +kernel), List.mem_of_getElem? (i := 893) (by decide +kernel)⟩
theorem lw_p42 : lw_okq (⟨"ShadowRowDeskModel", "laysRow", "(I[I)V"⟩, 37) := ⟨⟨by decide +kernel, by decide +kernel⟩, List.mem_of_getElem? (i := 612) (by decide +kernel), List.mem_of_getElem? (i := 918) (by decide +kernel), List.mem_of_getElem? (i := 919) (by decide +kernel)⟩
theorem lw_p43 : lw_okq (⟨"ShadowRowDeskModel", "solves", "(I[I[I)V"⟩, 37) := ⟨⟨by decide +kernel, by decide +kernel⟩, List.mem_of_getElem? (i := 612) (by decide +kernel), List.mem_of_getElem? (i := 922) (by decide +kernel), List.mem_of_getElem? (i := 923) (by decide +kernel)⟩
theorem lw_p44 : lw_okq (⟨"ShadowRowDeskModel", "takesApart", "([II[I)V"⟩, 37) := ⟨⟨by decide +kernel, by decide +kernel⟩, List.mem_of_getElem? (i := 612) (by decide +kernel), List.mem_of_getElem? (i := 940) (by decide +kernel), List.mem_of_getElem? (i := 941) (by decide +kernel)⟩
theorem lw_p45 : lw_okq (⟨"ShadowRowDeskModel", "notes", "()V"⟩, 37) := ⟨⟨by decide +kernel, by decide +kernel⟩, List.mem_of_getElem? (i := 612) (by decide +kernel), List.mem_of_getElem? (i := 952) (by decide +kernel), List.mem_of_getElem? (i := 953) (by decide +kernel)⟩
theorem lw_p46 : lw_okq (⟨"ShadowRowDeskModel", "joins", "([I[I)V"⟩, 37) := ⟨⟨by decide +kernel, by decide +kernel⟩, List.mem_of_getElem? (i := 612) (by decide +kernel), List.mem_of_getElem? (i := 984) (by decide +kernel), List.mem_of_getElem? (i := 985) (by decide +kernel)⟩
theorem lw_p47 : lw_okq (⟨"ShadowRowDeskModel", "many", "()I"⟩, 37) := ⟨⟨by decide +kernel, by decide +kernel⟩, List.mem_of_getElem? (i := 612) (by decide +kernel), List.mem_of_getElem? (i := 1020) (by decide +kernel), List.mem_of_getElem? (i := 1021) (by decide +kernel)⟩
def lw_privs_3 : List (MethodName × Nat) := [(⟨"ShadowRowDeskModel", "raisesThing", "(I)V"⟩, 37), (⟨"ShadowRowDeskModel", "sofarOne", "()V"⟩, 37), (⟨"ShadowRowDeskModel", "readsOn", "(II)I"⟩, 37), (⟨"ShadowRowDeskModel", "closes", "()V"⟩, 37), (⟨"ShadowRowDeskModel", "turns", "([II[I)V"⟩, 37), (⟨"ShadowRowDeskModel", "puts", "([II[II[I)V"⟩, 37), (⟨"ShadowRowDeskModel", "makes", "(I[I)V"⟩, 37), (⟨"ShadowRowDeskModel", "becomes", "(I[I[I)I"⟩, 37), (⟨"ShadowRowDeskModel", "laysOne", "()V"⟩, 37), (⟨"ShadowRowDeskModel", "copiesRow", "(I)V"⟩, 37), (⟨"ShadowRowDeskModel", "laysRow", "(I[I)V"⟩, 37), (⟨"ShadowRowDeskModel", "solves", "(I[I[I)V"⟩, 37), (⟨"ShadowRowDeskModel", "takesApart", "([II[I)V"⟩, 37), (⟨"ShadowRowDeskModel", "notes", "()V"⟩, 37), (⟨"ShadowRowDeskModel", "joins", "([I[I)V"⟩, 37), (⟨"ShadowRowDeskModel", "many", "()I"⟩, 37)]
theorem lw_r3 : ∀ q ∈ lw_privs_3, lw_okq q := List.forall_mem_cons.mpr ⟨lw_p32, List.forall_mem_cons.mpr ⟨lw_p33, List.forall_mem_cons.mpr ⟨lw_p34, List.forall_mem_cons.mpr ⟨lw_p35, List.forall_mem_cons.mpr ⟨lw_p36, List.forall_mem_cons.mpr ⟨lw_p37, List.forall_mem_cons.mpr ⟨lw_p38, List.forall_mem_cons.mpr ⟨lw_p39, List.forall_mem_cons.mpr ⟨lw_p40, List.forall_mem_cons.mpr ⟨lw_p41, List.forall_mem_cons.mpr ⟨lw_p42, List.forall_mem_cons.mpr ⟨lw_p43, List.forall_mem_cons.mpr ⟨lw_p44, List.forall_mem_cons.mpr ⟨lw_p45, List.forall_mem_cons.mpr ⟨lw_p46, List.forall_mem_cons.mpr ⟨lw_p47, fun _ h => absurd h List.not_mem_nil⟩⟩⟩⟩⟩⟩⟩⟩⟩⟩⟩⟩⟩⟩⟩⟩
theorem lw_p48 : lw_okq (⟨"ShadowRowDeskModel", "degree", "()I"⟩, 37) := ⟨⟨by decide +kernel, by decide +kernel⟩, List.mem_of_getElem? (i := 612) (by decide +kernel), List.mem_of_getElem? (i := 1032) (by decide +kernel), List.mem_of_getElem? (i := 1033) (by decide +kernel)⟩
theorem lw_p49 : lw_okq (⟨"ShadowRowDeskModel", "leastOf", "(I)I"⟩, 37) := ⟨⟨by decide +kernel, by decide +kernel⟩, List.mem_of_getElem? (i := 612) (by decide +kernel), List.mem_of_getElem? (i := 1036) (by decide +kernel), List.mem_of_getElem? (i := 1037) (by decide +kernel)⟩
def lw_privs_4 : List (MethodName × Nat) := [(⟨"ShadowRowDeskModel", "degree", "()I"⟩, 37), (⟨"ShadowRowDeskModel", "leastOf", "(I)I"⟩, 37)]
theorem lw_r4 : ∀ q ∈ lw_privs_4, lw_okq q := List.forall_mem_cons.mpr ⟨lw_p48, List.forall_mem_cons.mpr ⟨lw_p49, fun _ h => absurd h List.not_mem_nil⟩⟩
def lw_privs : List (MethodName × Nat) := lw_privs_1 ++ (lw_privs_2 ++ (lw_privs_3 ++ (lw_privs_4)))
def lw_tbl : List Cond := k2_sels lw_privs ++ tables_1
theorem lw_privs_ok : ∀ q ∈ lw_privs, lw_okq q := by
  show ∀ q ∈ lw_privs_1 ++ (lw_privs_2 ++ (lw_privs_3 ++ (lw_privs_4))), lw_okq q
  exact List.forall_mem_append.mpr ⟨lw_r1, List.forall_mem_append.mpr ⟨lw_r2, List.forall_mem_append.mpr ⟨lw_r3, lw_r4⟩⟩⟩
end
section
/-! ===== BEGIN words of one list among another's, by their places ===== -/
theorem goodIn_r {big : List Cond} (ws : List Cond) (ps : List Nat) (hp : ws = ps.filterMap (fun i => big[i]?)) (h : ws.all goodWord = true) : GoodIn big ws := by
  intro w hw
  have h1 := List.all_eq_true.mp h w hw
  rw [hp] at hw
  obtain ⟨i, -, hi⟩ := List.mem_filterMap.mp hw
  have hm : w ∈ big := by first | exact List.mem_of_getElem? hi | exact List.getElem?_mem hi
  exact ⟨hm, good_of_word h1⟩
theorem goodIn_app {big a b : List Cond} (ha : GoodIn big a) (hb : GoodIn big b) : GoodIn big (a ++ b) := fun w h => (List.mem_append.mp h).elim (ha w) (hb w)
theorem goodIn_ca {big a b : List Cond} {c : Cond} (ha : GoodIn big (c :: a)) (hb : GoodIn big b) : GoodIn big (c :: (a ++ b)) := fun w h => (List.mem_cons.mp h).elim (fun e => ha w (List.mem_cons.mpr (Or.inl e))) (fun h => (List.mem_append.mp h).elim (fun h => ha w (List.mem_cons.mpr (Or.inr h))) (hb w))
theorem goodIn_sub {big ws : List Cond} (hm : ∀ w ∈ ws, w ∈ big) (h : ws.all goodWord = true) : GoodIn big ws := fun w hw => ⟨hm w hw, good_of_word (List.all_eq_true.mp h w hw)⟩
/-! ===== END ===== -/
/-! ===== BEGIN printed: names, fields, word lists, decode rows ===== -/
def RX0 : String := "ShadowRowDesk$Hand"
def TX0 : u_T := fun k => match k with
  | 0 => ("ShadowRowDesk$Hand", "p", "[I", true)
  | 1 => ("ShadowRowDesk$Hand", "undoable", "I", false)
  | 2 => ("ShadowRowDesk$Hand", "past", "[[I", true)
  | _ => ("ShadowRowDesk$Hand", "next", "I", false)
def tyX0 : Nat → FieldType := fun k => match k with
  | 0 => .array .int
  | 1 => .int
  | 2 => .array (.array .int)
  | _ => .int
abbrev wsX00 : List Cond := u_ws RX0 TX0 4
theorem nmX0 : ∀ a, a < 4 → ∀ b, b < 4 → a ≠ b → (TX0 a).2.1 ≠ (TX0 b).2.1 := by decide +kernel
theorem tyX0_ok : ∀ k, k < 4 → parseFieldDescriptor (TX0 k).2.2.1 = some (tyX0 k) := by decide +kernel
abbrev cX0_init : ByteArray := prog_2_method_1_code
def yX0_init : MethodName := ⟨RX0, "<init>", "()V"⟩
abbrev cX0_remember : ByteArray := prog_2_method_2_code
def yX0_remember : MethodName := ⟨RX0, "remember", "()V"⟩
abbrev cX0_restore : ByteArray := prog_2_method_3_code
def yX0_restore : MethodName := ⟨RX0, "restore", "()Z"⟩
abbrev cX0_forget : ByteArray := prog_2_method_4_code
def yX0_forget : MethodName := ⟨RX0, "forget", "()V"⟩
abbrev cX0_hasTopPower : ByteArray := prog_2_method_5_code
def yX0_hasTopPower : MethodName := ⟨RX0, "hasTopPower", "()Z"⟩
abbrev cX0_degree : ByteArray := prog_2_method_6_code
def yX0_degree : MethodName := ⟨RX0, "degree", "()I"⟩
abbrev cX0_size : ByteArray := prog_2_method_7_code
def yX0_size : MethodName := ⟨RX0, "size", "()I"⟩
def RX1 : String := "ShadowRowDesk$Kept"
def TX1 : u_T := fun k => match k with
  | 0 => ("ShadowRowDesk$Kept", "g", "[[I", true)
  | 1 => ("ShadowRowDesk$Kept", "f", "[[I", true)
  | 2 => ("ShadowRowDesk$Kept", "p", "[I", true)
  | _ => ("ShadowRowDesk$Kept", "filled", "Z", false)
def tyX1 : Nat → FieldType := fun k => match k with
  | 0 => .array (.array .int)
  | 1 => .array (.array .int)
  | 2 => .array .int
  | _ => .boolean
abbrev wsX10 : List Cond := u_ws RX1 TX1 4
theorem nmX1 : ∀ a, a < 4 → ∀ b, b < 4 → a ≠ b → (TX1 a).2.1 ≠ (TX1 b).2.1 := by decide +kernel
theorem tyX1_ok : ∀ k, k < 4 → parseFieldDescriptor (TX1 k).2.2.1 = some (tyX1 k) := by decide +kernel
abbrev cX1_init : ByteArray := prog_3_method_1_code
def yX1_init : MethodName := ⟨RX1, "<init>", "()V"⟩
def RX2 : String := "ShadowRowDesk$Numbers"
def TX2 : u_T := fun k => match k with
  | _ => ("", "", "", false)
def tyX2 : Nat → FieldType := fun k => match k with
  | _ => .int
abbrev wsX20 : List Cond := u_ws RX2 TX2 0
theorem nmX2 : ∀ a, a < 0 → ∀ b, b < 0 → a ≠ b → (TX2 a).2.1 ≠ (TX2 b).2.1 := by decide +kernel
theorem tyX2_ok : ∀ k, k < 0 → parseFieldDescriptor (TX2 k).2.2.1 = some (tyX2 k) := by decide +kernel
abbrev cX2_holds : ByteArray := prog_4_method_2_code
def yX2_holds : MethodName := ⟨RX2, "holds", "(I)Z"⟩
abbrev cX2_add : ByteArray := prog_4_method_3_code
def yX2_add : MethodName := ⟨RX2, "add", "(II)I"⟩
abbrev cX2_subtract : ByteArray := prog_4_method_4_code
def yX2_subtract : MethodName := ⟨RX2, "subtract", "(II)I"⟩
abbrev cX2_multiply : ByteArray := prog_4_method_5_code
def yX2_multiply : MethodName := ⟨RX2, "multiply", "(II)I"⟩
abbrev cX2_inverse : ByteArray := prog_4_method_6_code
def yX2_inverse : MethodName := ⟨RX2, "inverse", "(I)I"⟩
def RX3 : String := "ShadowRowDesk$Reader"
def TX3 : u_T := fun k => match k with
  | 0 => ("ShadowRowDesk$Reader", "reckoner", "LShadowRowDesk$Reckoner;", true)
  | 1 => ("ShadowRowDesk$Reader", "pile", "[[I", true)
  | 2 => ("ShadowRowDesk$Reader", "base", "[I", true)
  | _ => ("ShadowRowDesk$Reader", "height", "I", false)
def tyX3 : Nat → FieldType := fun k => match k with
  | 0 => .object "ShadowRowDesk$Reckoner"
  | 1 => .array (.array .int)
  | 2 => .array .int
  | _ => .int
abbrev wsX30 : List Cond := u_ws RX3 TX3 4
theorem nmX3 : ∀ a, a < 4 → ∀ b, b < 4 → a ≠ b → (TX3 a).2.1 ≠ (TX3 b).2.1 := by decide +kernel
theorem tyX3_ok : ∀ k, k < 4 → parseFieldDescriptor (TX3 k).2.2.1 = some (tyX3 k) := by decide +kernel
abbrev cX3_init : ByteArray := prog_5_method_1_code
def yX3_init : MethodName := ⟨RX3, "<init>", "(LShadowRowDesk$Reckoner;)V"⟩
abbrev cX3_toldG : ByteArray := prog_5_method_2_code
def yX3_toldG : MethodName := ⟨RX3, "toldG", "()[I"⟩
abbrev cX3_toldF : ByteArray := prog_5_method_3_code
def yX3_toldF : MethodName := ⟨RX3, "toldF", "()[I"⟩
abbrev cX3_reckon : ByteArray := prog_5_method_4_code
def yX3_reckon : MethodName := ⟨RX3, "reckon", "(LShadowRowDesk$Text;)Z"⟩
abbrev cX3_goStep : ByteArray := prog_5_method_5_code
def yX3_goStep : MethodName := ⟨RX3, "goStep", "(II)Z"⟩
abbrev cX3_pushMonomial : ByteArray := prog_5_method_6_code
def yX3_pushMonomial : MethodName := ⟨RX3, "pushMonomial", "(II)Z"⟩
abbrev cX3_joinTwo : ByteArray := prog_5_method_7_code
def yX3_joinTwo : MethodName := ⟨RX3, "joinTwo", "(I)Z"⟩
abbrev cX3_toPower : ByteArray := prog_5_method_8_code
def yX3_toPower : MethodName := ⟨RX3, "toPower", "([II)Z"⟩
abbrev cX3_turn : ByteArray := prog_5_method_9_code
def yX3_turn : MethodName := ⟨RX3, "turn", "(I[I)Z"⟩
abbrev cX3_seriesOf : ByteArray := prog_5_method_10_code
def yX3_seriesOf : MethodName := ⟨RX3, "seriesOf", "(I)[I"⟩
abbrev cX3_isUnit : ByteArray := prog_5_method_11_code
def yX3_isUnit : MethodName := ⟨RX3, "isUnit", "([I)Z"⟩
abbrev cX3_isDelta : ByteArray := prog_5_method_12_code
def yX3_isDelta : MethodName := ⟨RX3, "isDelta", "([I)Z"⟩
def RX4 : String := "ShadowRowDesk$Reckoner"
def TX4 : u_T := fun k => match k with
  | 0 => ("ShadowRowDesk$Reckoner", "exponential", "[I", true)
  | 1 => ("ShadowRowDesk$Reckoner", "quotient", "[I", true)
  | 2 => ("ShadowRowDesk$Reckoner", "logarithm", "[I", true)
  | 3 => ("ShadowRowDesk$Reckoner", "factorial", "[I", true)
  | 4 => ("ShadowRowDesk$Reckoner", "nested", "[I", true)
  | 5 => ("ShadowRowDesk$Reckoner", "lowered", "[I", true)
  | 6 => ("ShadowRowDesk$Reckoner", "overLowered", "[I", true)
  | _ => ("ShadowRowDesk$Reckoner", "power", "[I", true)
def tyX4 : Nat → FieldType := fun k => match k with
  | 0 => .array .int
  | 1 => .array .int
  | 2 => .array .int
  | 3 => .array .int
  | 4 => .array .int
  | 5 => .array .int
  | 6 => .array .int
  | _ => .array .int
abbrev wsX40 : List Cond := u_ws RX4 TX4 8
theorem nmX4 : ∀ a, a < 8 → ∀ b, b < 8 → a ≠ b → (TX4 a).2.1 ≠ (TX4 b).2.1 := by decide +kernel
theorem tyX4_ok : ∀ k, k < 8 → parseFieldDescriptor (TX4 k).2.2.1 = some (tyX4 k) := by decide +kernel
abbrev cX4_init : ByteArray := prog_6_method_1_code
def yX4_init : MethodName := ⟨RX4, "<init>", "()V"⟩
abbrev cX4_multiply : ByteArray := prog_6_method_2_code
def yX4_multiply : MethodName := ⟨RX4, "multiply", "([I[I[I)V"⟩
abbrev cX4_divide : ByteArray := prog_6_method_3_code
def yX4_divide : MethodName := ⟨RX4, "divide", "([I[I[I)V"⟩
abbrev cX4_overSeries : ByteArray := prog_6_method_4_code
def yX4_overSeries : MethodName := ⟨RX4, "overSeries", "([I[I)V"⟩
abbrev cX4_putInside : ByteArray := prog_6_method_5_code
def yX4_putInside : MethodName := ⟨RX4, "putInside", "([I[I[I)V"⟩
abbrev cX4_turnInsideOut : ByteArray := prog_6_method_6_code
def yX4_turnInsideOut : MethodName := ⟨RX4, "turnInsideOut", "([I[I)V"⟩
abbrev cX4_lower : ByteArray := prog_6_method_7_code
def yX4_lower : MethodName := ⟨RX4, "lower", "([I)V"⟩
abbrev cX4_exponentialOf : ByteArray := prog_6_method_8_code
def yX4_exponentialOf : MethodName := ⟨RX4, "exponentialOf", "([II)V"⟩
abbrev cX4_takeBy : ByteArray := prog_6_method_9_code
def yX4_takeBy : MethodName := ⟨RX4, "takeBy", "([I[I)V"⟩
abbrev cX4_untakeBy : ByteArray := prog_6_method_10_code
def yX4_untakeBy : MethodName := ⟨RX4, "untakeBy", "([I[I)V"⟩
abbrev cX4_tellPolynomials : ByteArray := prog_6_method_11_code
def yX4_tellPolynomials : MethodName := ⟨RX4, "tellPolynomials", "([[I[I[I)V"⟩
def RX5 : String := "ShadowRowDesk$Row"
def TX5 : u_T := fun k => match k with
  | 0 => ("ShadowRowDesk$Row", "g", "[I", true)
  | 1 => ("ShadowRowDesk$Row", "f", "[I", true)
  | 2 => ("ShadowRowDesk$Row", "overG", "[I", true)
  | 3 => ("ShadowRowDesk$Row", "turnedF", "[I", true)
  | 4 => ("ShadowRowDesk$Row", "polynomials", "[[I", true)
  | 5 => ("ShadowRowDesk$Row", "reckoner", "LShadowRowDesk$Reckoner;", true)
  | 6 => ("ShadowRowDesk$Row", "first", "[I", true)
  | _ => ("ShadowRowDesk$Row", "rest", "[I", true)
def tyX5 : Nat → FieldType := fun k => match k with
  | 0 => .array .int
  | 1 => .array .int
  | 2 => .array .int
  | 3 => .array .int
  | 4 => .array (.array .int)
  | 5 => .object "ShadowRowDesk$Reckoner"
  | 6 => .array .int
  | _ => .array .int
abbrev wsX50 : List Cond := u_ws RX5 TX5 8
theorem nmX5 : ∀ a, a < 8 → ∀ b, b < 8 → a ≠ b → (TX5 a).2.1 ≠ (TX5 b).2.1 := by decide +kernel
theorem tyX5_ok : ∀ k, k < 8 → parseFieldDescriptor (TX5 k).2.2.1 = some (tyX5 k) := by decide +kernel
abbrev cX5_init : ByteArray := prog_7_method_1_code
def yX5_init : MethodName := ⟨RX5, "<init>", "(LShadowRowDesk$Reckoner;)V"⟩
abbrev cX5_become : ByteArray := prog_7_method_2_code
def yX5_become : MethodName := ⟨RX5, "become", "([I[I)I"⟩
abbrev cX5_reckonAll : ByteArray := prog_7_method_3_code
def yX5_reckonAll : MethodName := ⟨RX5, "reckonAll", "()V"⟩
abbrev cX5_chosen : ByteArray := prog_7_method_4_code
def yX5_chosen : MethodName := ⟨RX5, "chosen", "(I)[I"⟩
abbrev cX5_tell : ByteArray := prog_7_method_5_code
def yX5_tell : MethodName := ⟨RX5, "tell", "([I[I)V"⟩
abbrev cX5_gather : ByteArray := prog_7_method_6_code
def yX5_gather : MethodName := ⟨RX5, "gather", "([I[I)V"⟩
abbrev cX5_secondPower : ByteArray := prog_7_method_7_code
def yX5_secondPower : MethodName := ⟨RX5, "secondPower", "()I"⟩
def RX6 : String := "ShadowRowDesk$Text"
def TX6 : u_T := fun k => match k with
  | 0 => ("ShadowRowDesk$Text", "steps", "[I", true)
  | 1 => ("ShadowRowDesk$Text", "amounts", "[I", true)
  | 2 => ("ShadowRowDesk$Text", "stepCount", "I", false)
  | 3 => ("ShadowRowDesk$Text", "length", "I", false)
  | 4 => ("ShadowRowDesk$Text", "letters", "[I", true)
  | 5 => ("ShadowRowDesk$Text", "place", "I", false)
  | 6 => ("ShadowRowDesk$Text", "end", "I", false)
  | _ => ("ShadowRowDesk$Text", "first", "I", false)
def tyX6 : Nat → FieldType := fun k => match k with
  | 0 => .array .int
  | 1 => .array .int
  | 2 => .int
  | 3 => .int
  | 4 => .array .int
  | 5 => .int
  | 6 => .int
  | _ => .int
abbrev wsX60 : List Cond := u_ws RX6 TX6 8
theorem nmX6 : ∀ a, a < 8 → ∀ b, b < 8 → a ≠ b → (TX6 a).2.1 ≠ (TX6 b).2.1 := by decide +kernel
theorem tyX6_ok : ∀ k, k < 8 → parseFieldDescriptor (TX6 k).2.2.1 = some (tyX6 k) := by decide +kernel
abbrev cX6_init : ByteArray := prog_8_method_1_code
def yX6_init : MethodName := ⟨RX6, "<init>", "()V"⟩
abbrev cX6_append : ByteArray := prog_8_method_2_code
def yX6_append : MethodName := ⟨RX6, "append", "(I)Z"⟩
abbrev cX6_clear : ByteArray := prog_8_method_3_code
def yX6_clear : MethodName := ⟨RX6, "clear", "()V"⟩
abbrev cX6_firstFault : ByteArray := prog_8_method_4_code
def yX6_firstFault : MethodName := ⟨RX6, "firstFault", "()I"⟩
abbrev cX6_standsSum : ByteArray := prog_8_method_5_code
def yX6_standsSum : MethodName := ⟨RX6, "standsSum", "(I)Z"⟩
abbrev cX6_standsProduct : ByteArray := prog_8_method_6_code
def yX6_standsProduct : MethodName := ⟨RX6, "standsProduct", "(I)Z"⟩
abbrev cX6_standsPower : ByteArray := prog_8_method_7_code
def yX6_standsPower : MethodName := ⟨RX6, "standsPower", "(I)Z"⟩
abbrev cX6_standsThing : ByteArray := prog_8_method_8_code
def yX6_standsThing : MethodName := ⟨RX6, "standsThing", "(I)Z"⟩
abbrev cX6_toNextToken : ByteArray := prog_8_method_9_code
def yX6_toNextToken : MethodName := ⟨RX6, "toNextToken", "()V"⟩
abbrev cX6_isName : ByteArray := prog_8_method_10_code
def yX6_isName : MethodName := ⟨RX6, "isName", "(I)Z"⟩
abbrev cX6_isNumber : ByteArray := prog_8_method_11_code
def yX6_isNumber : MethodName := ⟨RX6, "isNumber", "()Z"⟩
abbrev cX6_amount : ByteArray := prog_8_method_12_code
def yX6_amount : MethodName := ⟨RX6, "amount", "()I"⟩
abbrev cX6_isDigit : ByteArray := prog_8_method_13_code
def yX6_isDigit : MethodName := ⟨RX6, "isDigit", "(I)Z"⟩
abbrev cX6_addStep : ByteArray := prog_8_method_14_code
def yX6_addStep : MethodName := ⟨RX6, "addStep", "(II)V"⟩
def RX7 : String := "ShadowRowDesk"
def TX7 : u_T := fun k => match k with
  | 0 => ("ShadowRowDesk", "reckoner", "LShadowRowDesk$Reckoner;", true)
  | 1 => ("ShadowRowDesk", "text", "LShadowRowDesk$Text;", true)
  | 2 => ("ShadowRowDesk", "reader", "LShadowRowDesk$Reader;", true)
  | 3 => ("ShadowRowDesk", "rows", "[LShadowRowDesk$Row;", true)
  | 4 => ("ShadowRowDesk", "held", "LShadowRowDesk$Hand;", true)
  | 5 => ("ShadowRowDesk", "kept", "[LShadowRowDesk$Kept;", true)
  | 6 => ("ShadowRowDesk", "newG", "[I", true)
  | 7 => ("ShadowRowDesk", "newF", "[I", true)
  | 8 => ("ShadowRowDesk", "scratch", "[I", true)
  | _ => ("ShadowRowDesk", "numbers", "[I", true)
def tyX7 : Nat → FieldType := fun k => match k with
  | 0 => .object "ShadowRowDesk$Reckoner"
  | 1 => .object "ShadowRowDesk$Text"
  | 2 => .object "ShadowRowDesk$Reader"
  | 3 => .array (.object "ShadowRowDesk$Row")
  | 4 => .object "ShadowRowDesk$Hand"
  | 5 => .array (.object "ShadowRowDesk$Kept")
  | 6 => .array .int
  | 7 => .array .int
  | 8 => .array .int
  | _ => .array .int
abbrev wsX70 : List Cond := u_ws RX7 TX7 10
theorem nmX7 : ∀ a, a < 10 → ∀ b, b < 10 → a ≠ b → (TX7 a).2.1 ≠ (TX7 b).2.1 := by decide +kernel
theorem tyX7_ok : ∀ k, k < 10 → parseFieldDescriptor (TX7 k).2.2.1 = some (tyX7 k) := by decide +kernel
abbrev cX7_init : ByteArray := prog_1_method_1_code
def yX7_init : MethodName := ⟨RX7, "<init>", "()V"⟩
abbrev cX7_write : ByteArray := prog_1_method_2_code
def yX7_write : MethodName := ⟨RX7, "write", "(I)I"⟩
abbrev cX7_erase : ByteArray := prog_1_method_3_code
def yX7_erase : MethodName := ⟨RX7, "erase", "()I"⟩
abbrev cX7_fault : ByteArray := prog_1_method_4_code
def yX7_fault : MethodName := ⟨RX7, "fault", "()I"⟩
abbrev cX7_read : ByteArray := prog_1_method_5_code
def yX7_read : MethodName := ⟨RX7, "read", "(I)I"⟩
abbrev cX7_compose : ByteArray := prog_1_method_6_code
def yX7_compose : MethodName := ⟨RX7, "compose", "(III)I"⟩
abbrev cX7_invert : ByteArray := prog_1_method_7_code
def yX7_invert : MethodName := ⟨RX7, "invert", "(II)I"⟩
abbrev cX7_part : ByteArray := prog_1_method_8_code
def yX7_part : MethodName := ⟨RX7, "part", "(III)I"⟩
abbrev cX7_move : ByteArray := prog_1_method_9_code
def yX7_move : MethodName := ⟨RX7, "move", "(III)I"⟩
abbrev cX7_stretch : ByteArray := prog_1_method_10_code
def yX7_stretch : MethodName := ⟨RX7, "stretch", "(III)I"⟩
abbrev cX7_series : ByteArray := prog_1_method_11_code
def yX7_series : MethodName := ⟨RX7, "series", "(III)I"⟩
abbrev cX7_polynomial : ByteArray := prog_1_method_12_code
def yX7_polynomial : MethodName := ⟨RX7, "polynomial", "(III)I"⟩
abbrev cX7_value : ByteArray := prog_1_method_13_code
def yX7_value : MethodName := ⟨RX7, "value", "(III)I"⟩
abbrev cX7_connect : ByteArray := prog_1_method_14_code
def yX7_connect : MethodName := ⟨RX7, "connect", "(IIII)I"⟩
abbrev cX7_differ : ByteArray := prog_1_method_15_code
def yX7_differ : MethodName := ⟨RX7, "differ", "(II)I"⟩
abbrev cX7_take : ByteArray := prog_1_method_16_code
def yX7_take : MethodName := ⟨RX7, "take", "(II)I"⟩
abbrev cX7_put : ByteArray := prog_1_method_17_code
def yX7_put : MethodName := ⟨RX7, "put", "(II)I"⟩
abbrev cX7_plus : ByteArray := prog_1_method_18_code
def yX7_plus : MethodName := ⟨RX7, "plus", "(III)I"⟩
abbrev cX7_act : ByteArray := prog_1_method_19_code
def yX7_act : MethodName := ⟨RX7, "act", "(II)I"⟩
abbrev cX7_raise : ByteArray := prog_1_method_20_code
def yX7_raise : MethodName := ⟨RX7, "raise", "(I)I"⟩
abbrev cX7_shift : ByteArray := prog_1_method_21_code
def yX7_shift : MethodName := ⟨RX7, "shift", "(I)I"⟩
abbrev cX7_times : ByteArray := prog_1_method_22_code
def yX7_times : MethodName := ⟨RX7, "times", "()I"⟩
abbrev cX7_swap : ByteArray := prog_1_method_23_code
def yX7_swap : MethodName := ⟨RX7, "swap", "(II)I"⟩
abbrev cX7_climb : ByteArray := prog_1_method_24_code
def yX7_climb : MethodName := ⟨RX7, "climb", "(I)I"⟩
abbrev cX7_weigh : ByteArray := prog_1_method_25_code
def yX7_weigh : MethodName := ⟨RX7, "weigh", "(I)I"⟩
abbrev cX7_undo : ByteArray := prog_1_method_26_code
def yX7_undo : MethodName := ⟨RX7, "undo", "()I"⟩
abbrev cX7_hand : ByteArray := prog_1_method_27_code
def yX7_hand : MethodName := ⟨RX7, "hand", "(I)I"⟩
abbrev cX7_at : ByteArray := prog_1_method_28_code
def yX7_at : MethodName := ⟨RX7, "at", "(I)I"⟩
abbrev cX7_expand : ByteArray := prog_1_method_29_code
def yX7_expand : MethodName := ⟨RX7, "expand", "(II)I"⟩
abbrev cX7_sum : ByteArray := prog_1_method_30_code
def yX7_sum : MethodName := ⟨RX7, "sum", "(I)I"⟩
abbrev cX7_keep : ByteArray := prog_1_method_31_code
def yX7_keep : MethodName := ⟨RX7, "keep", "(I)I"⟩
abbrev cX7_back : ByteArray := prog_1_method_32_code
def yX7_back : MethodName := ⟨RX7, "back", "(I)I"⟩
abbrev cX7_count : ByteArray := prog_1_method_33_code
def yX7_count : MethodName := ⟨RX7, "count", "(I)I"⟩
abbrev cX7_isRow : ByteArray := prog_1_method_34_code
def yX7_isRow : MethodName := ⟨RX7, "isRow", "(I)Z"⟩
abbrev cX7_isPower : ByteArray := prog_1_method_35_code
def yX7_isPower : MethodName := ⟨RX7, "isPower", "(I)Z"⟩
abbrev cX7_isKeptPlace : ByteArray := prog_1_method_36_code
def yX7_isKeptPlace : MethodName := ⟨RX7, "isKeptPlace", "(I)Z"⟩
abbrev cX7_copy : ByteArray := prog_1_method_37_code
def yX7_copy : MethodName := ⟨RX7, "copy", "([I[I)V"⟩
abbrev cX7_areAlike : ByteArray := prog_1_method_38_code
def yX7_areAlike : MethodName := ⟨RX7, "areAlike", "([I[I)Z"⟩
abbrev cX7_setMonomial : ByteArray := prog_1_method_39_code
def yX7_setMonomial : MethodName := ⟨RX7, "setMonomial", "([III)V"⟩
abbrev cX7_addMultiple : ByteArray := prog_1_method_40_code
def yX7_addMultiple : MethodName := ⟨RX7, "addMultiple", "([I[II)V"⟩
abbrev cX7_moveUp : ByteArray := prog_1_method_41_code
def yX7_moveUp : MethodName := ⟨RX7, "moveUp", "([I)V"⟩
abbrev cX7_valueAt : ByteArray := prog_1_method_42_code
def yX7_valueAt : MethodName := ⟨RX7, "valueAt", "([II)I"⟩
def RX8 : String := "ShadowRowDeskModel"
def TX8 : u_T := fun k => match k with
  | 0 => ("ShadowRowDeskModel", "gs", "[I", true)
  | 1 => ("ShadowRowDeskModel", "fs", "[I", true)
  | 2 => ("ShadowRowDeskModel", "p", "[I", true)
  | 3 => ("ShadowRowDeskModel", "past", "[I", true)
  | 4 => ("ShadowRowDeskModel", "undoes", "I", false)
  | 5 => ("ShadowRowDeskModel", "kept", "[I", true)
  | 6 => ("ShadowRowDeskModel", "isKept", "[Z", true)
  | 7 => ("ShadowRowDeskModel", "text", "[I", true)
  | 8 => ("ShadowRowDeskModel", "letters", "I", false)
  | 9 => ("ShadowRowDeskModel", "made", "[I", true)
  | 10 => ("ShadowRowDeskModel", "sofar", "[I", true)
  | 11 => ("ShadowRowDeskModel", "turned", "[I", true)
  | 12 => ("ShadowRowDeskModel", "tried", "[I", true)
  | 13 => ("ShadowRowDeskModel", "power", "[I", true)
  | 14 => ("ShadowRowDeskModel", "summed", "[I", true)
  | 15 => ("ShadowRowDeskModel", "here", "I", false)
  | 16 => ("ShadowRowDeskModel", "open", "I", false)
  | 17 => ("ShadowRowDeskModel", "isWrong", "Z", false)
  | 18 => ("ShadowRowDeskModel", "thing", "[I", true)
  | 19 => ("ShadowRowDeskModel", "sums", "[I", true)
  | 20 => ("ShadowRowDeskModel", "products", "[I", true)
  | 21 => ("ShadowRowDeskModel", "work", "[I", true)
  | 22 => ("ShadowRowDeskModel", "sumBy", "[I", true)
  | 23 => ("ShadowRowDeskModel", "productBy", "[I", true)
  | 24 => ("ShadowRowDeskModel", "letterOf", "[I", true)
  | 25 => ("ShadowRowDeskModel", "readG", "[I", true)
  | 26 => ("ShadowRowDeskModel", "readF", "[I", true)
  | 27 => ("ShadowRowDeskModel", "letterAhead", "I", false)
  | 28 => ("ShadowRowDeskModel", "newG", "[I", true)
  | 29 => ("ShadowRowDeskModel", "newF", "[I", true)
  | 30 => ("ShadowRowDeskModel", "one", "[I", true)
  | 31 => ("ShadowRowDeskModel", "pols", "[I", true)
  | 32 => ("ShadowRowDeskModel", "others", "[I", true)
  | 33 => ("ShadowRowDeskModel", "due", "[I", true)
  | 34 => ("ShadowRowDeskModel", "q", "[I", true)
  | 35 => ("ShadowRowDeskModel", "left", "[I", true)
  | _ => ("ShadowRowDeskModel", "parts", "[I", true)
def tyX8 : Nat → FieldType := fun k => match k with
  | 0 => .array .int
  | 1 => .array .int
  | 2 => .array .int
  | 3 => .array .int
  | 4 => .int
  | 5 => .array .int
  | 6 => .array .boolean
  | 7 => .array .int
  | 8 => .int
  | 9 => .array .int
  | 10 => .array .int
  | 11 => .array .int
  | 12 => .array .int
  | 13 => .array .int
  | 14 => .array .int
  | 15 => .int
  | 16 => .int
  | 17 => .boolean
  | 18 => .array .int
  | 19 => .array .int
  | 20 => .array .int
  | 21 => .array .int
  | 22 => .array .int
  | 23 => .array .int
  | 24 => .array .int
  | 25 => .array .int
  | 26 => .array .int
  | 27 => .int
  | 28 => .array .int
  | 29 => .array .int
  | 30 => .array .int
  | 31 => .array .int
  | 32 => .array .int
  | 33 => .array .int
  | 34 => .array .int
  | 35 => .array .int
  | _ => .array .int
abbrev wsX80 : List Cond := u_ws RX8 TX8 37
theorem nmX8 : ∀ a, a < 37 → ∀ b, b < 37 → a ≠ b → (TX8 a).2.1 ≠ (TX8 b).2.1 := by decide +kernel
theorem tyX8_ok : ∀ k, k < 37 → parseFieldDescriptor (TX8 k).2.2.1 = some (tyX8 k) := by decide +kernel
abbrev cX8_init : ByteArray := prog_10_method_1_code
def yX8_init : MethodName := ⟨RX8, "<init>", "()V"⟩
abbrev cX8_in : ByteArray := prog_10_method_2_code
def yX8_in : MethodName := ⟨RX8, "in", "(III)Z"⟩
abbrev cX8_isRow : ByteArray := prog_10_method_3_code
def yX8_isRow : MethodName := ⟨RX8, "isRow", "(I)Z"⟩
abbrev cX8_isPlace : ByteArray := prog_10_method_4_code
def yX8_isPlace : MethodName := ⟨RX8, "isPlace", "(I)Z"⟩
abbrev cX8_isNumber : ByteArray := prog_10_method_5_code
def yX8_isNumber : MethodName := ⟨RX8, "isNumber", "(I)Z"⟩
abbrev cX8_bring : ByteArray := prog_10_method_6_code
def yX8_bring : MethodName := ⟨RX8, "bring", "([II[III)V"⟩
abbrev cX8_together : ByteArray := prog_10_method_7_code
def yX8_together : MethodName := ⟨RX8, "together", "(II)I"⟩
abbrev cX8_less : ByteArray := prog_10_method_8_code
def yX8_less : MethodName := ⟨RX8, "less", "(II)I"⟩
abbrev cX8_product : ByteArray := prog_10_method_9_code
def yX8_product : MethodName := ⟨RX8, "product", "(II)I"⟩
abbrev cX8_over : ByteArray := prog_10_method_10_code
def yX8_over : MethodName := ⟨RX8, "over", "(I)I"⟩
abbrev cX8_toMade : ByteArray := prog_10_method_11_code
def yX8_toMade : MethodName := ⟨RX8, "toMade", "([II)V"⟩
abbrev cX8_clears : ByteArray := prog_10_method_12_code
def yX8_clears : MethodName := ⟨RX8, "clears", "()V"⟩
abbrev cX8_multiplies : ByteArray := prog_10_method_13_code
def yX8_multiplies : MethodName := ⟨RX8, "multiplies", "([II[II[I)V"⟩
abbrev cX8_divides : ByteArray := prog_10_method_14_code
def yX8_divides : MethodName := ⟨RX8, "divides", "([II[II[I)V"⟩
abbrev cX8_puts : ByteArray := prog_10_method_15_code
def yX8_puts : MethodName := ⟨RX8, "puts", "([II[II[I)V"⟩
abbrev cX8_turns : ByteArray := prog_10_method_16_code
def yX8_turns : MethodName := ⟨RX8, "turns", "([II[I)V"⟩
abbrev cX8_makes : ByteArray := prog_10_method_17_code
def yX8_makes : MethodName := ⟨RX8, "makes", "(I[I)V"⟩
abbrev cX8_isFlat : ByteArray := prog_10_method_18_code
def yX8_isFlat : MethodName := ⟨RX8, "isFlat", "([II)Z"⟩
abbrev cX8_isDelta : ByteArray := prog_10_method_19_code
def yX8_isDelta : MethodName := ⟨RX8, "isDelta", "([II)Z"⟩
abbrev cX8_isDigit : ByteArray := prog_10_method_20_code
def yX8_isDigit : MethodName := ⟨RX8, "isDigit", "(I)Z"⟩
abbrev cX8_sign : ByteArray := prog_10_method_21_code
def yX8_sign : MethodName := ⟨RX8, "sign", "()I"⟩
abbrev cX8_figures : ByteArray := prog_10_method_22_code
def yX8_figures : MethodName := ⟨RX8, "figures", "()I"⟩
abbrev cX8_numberOf : ByteArray := prog_10_method_23_code
def yX8_numberOf : MethodName := ⟨RX8, "numberOf", "(I)I"⟩
abbrev cX8_sets : ByteArray := prog_10_method_24_code
def yX8_sets : MethodName := ⟨RX8, "sets", "(II)V"⟩
abbrev cX8_endsPower : ByteArray := prog_10_method_25_code
def yX8_endsPower : MethodName := ⟨RX8, "endsPower", "()V"⟩
abbrev cX8_endsProduct : ByteArray := prog_10_method_26_code
def yX8_endsProduct : MethodName := ⟨RX8, "endsProduct", "()V"⟩
abbrev cX8_begins : ByteArray := prog_10_method_27_code
def yX8_begins : MethodName := ⟨RX8, "begins", "(I)V"⟩
abbrev cX8_closes : ByteArray := prog_10_method_28_code
def yX8_closes : MethodName := ⟨RX8, "closes", "()V"⟩
abbrev cX8_raisesThing : ByteArray := prog_10_method_29_code
def yX8_raisesThing : MethodName := ⟨RX8, "raisesThing", "(I)V"⟩
abbrev cX8_sofarOne : ByteArray := prog_10_method_30_code
def yX8_sofarOne : MethodName := ⟨RX8, "sofarOne", "()V"⟩
abbrev cX8_isLetter : ByteArray := prog_10_method_31_code
def yX8_isLetter : MethodName := ⟨RX8, "isLetter", "(I)Z"⟩
abbrev cX8_readsThing : ByteArray := prog_10_method_32_code
def yX8_readsThing : MethodName := ⟨RX8, "readsThing", "(I)I"⟩
abbrev cX8_readsBracket : ByteArray := prog_10_method_33_code
def yX8_readsBracket : MethodName := ⟨RX8, "readsBracket", "(I)I"⟩
abbrev cX8_readsTimes : ByteArray := prog_10_method_34_code
def yX8_readsTimes : MethodName := ⟨RX8, "readsTimes", "(I)I"⟩
abbrev cX8_readsOn : ByteArray := prog_10_method_35_code
def yX8_readsOn : MethodName := ⟨RX8, "readsOn", "(II)I"⟩
abbrev cX8_readsSum : ByteArray := prog_10_method_36_code
def yX8_readsSum : MethodName := ⟨RX8, "readsSum", "()I"⟩
abbrev cX8_reads : ByteArray := prog_10_method_37_code
def yX8_reads : MethodName := ⟨RX8, "reads", "()Z"⟩
abbrev cX8_write : ByteArray := prog_10_method_38_code
def yX8_write : MethodName := ⟨RX8, "write", "(I)I"⟩
abbrev cX8_erase : ByteArray := prog_10_method_39_code
def yX8_erase : MethodName := ⟨RX8, "erase", "()I"⟩
abbrev cX8_fault : ByteArray := prog_10_method_40_code
def yX8_fault : MethodName := ⟨RX8, "fault", "()I"⟩
abbrev cX8_becomes : ByteArray := prog_10_method_41_code
def yX8_becomes : MethodName := ⟨RX8, "becomes", "(I[I[I)I"⟩
abbrev cX8_read : ByteArray := prog_10_method_42_code
def yX8_read : MethodName := ⟨RX8, "read", "(I)I"⟩
abbrev cX8_compose : ByteArray := prog_10_method_43_code
def yX8_compose : MethodName := ⟨RX8, "compose", "(III)I"⟩
abbrev cX8_laysOne : ByteArray := prog_10_method_44_code
def yX8_laysOne : MethodName := ⟨RX8, "laysOne", "()V"⟩
abbrev cX8_invert : ByteArray := prog_10_method_45_code
def yX8_invert : MethodName := ⟨RX8, "invert", "(II)I"⟩
abbrev cX8_copiesRow : ByteArray := prog_10_method_46_code
def yX8_copiesRow : MethodName := ⟨RX8, "copiesRow", "(I)V"⟩
abbrev cX8_part : ByteArray := prog_10_method_47_code
def yX8_part : MethodName := ⟨RX8, "part", "(III)I"⟩
abbrev cX8_move : ByteArray := prog_10_method_48_code
def yX8_move : MethodName := ⟨RX8, "move", "(III)I"⟩
abbrev cX8_stretch : ByteArray := prog_10_method_49_code
def yX8_stretch : MethodName := ⟨RX8, "stretch", "(III)I"⟩
abbrev cX8_series : ByteArray := prog_10_method_50_code
def yX8_series : MethodName := ⟨RX8, "series", "(III)I"⟩
abbrev cX8_falls : ByteArray := prog_10_method_51_code
def yX8_falls : MethodName := ⟨RX8, "falls", "(II)I"⟩
abbrev cX8_solves : ByteArray := prog_10_method_52_code
def yX8_solves : MethodName := ⟨RX8, "solves", "(I[I[I)V"⟩
abbrev cX8_laysRow : ByteArray := prog_10_method_53_code
def yX8_laysRow : MethodName := ⟨RX8, "laysRow", "(I[I)V"⟩
abbrev cX8_polynomial : ByteArray := prog_10_method_54_code
def yX8_polynomial : MethodName := ⟨RX8, "polynomial", "(III)I"⟩
abbrev cX8_valueOf : ByteArray := prog_10_method_55_code
def yX8_valueOf : MethodName := ⟨RX8, "valueOf", "([III)I"⟩
abbrev cX8_value : ByteArray := prog_10_method_56_code
def yX8_value : MethodName := ⟨RX8, "value", "(III)I"⟩
abbrev cX8_takesApart : ByteArray := prog_10_method_57_code
def yX8_takesApart : MethodName := ⟨RX8, "takesApart", "([II[I)V"⟩
abbrev cX8_joins : ByteArray := prog_10_method_58_code
def yX8_joins : MethodName := ⟨RX8, "joins", "([I[I)V"⟩
abbrev cX8_connect : ByteArray := prog_10_method_59_code
def yX8_connect : MethodName := ⟨RX8, "connect", "(IIII)I"⟩
abbrev cX8_differ : ByteArray := prog_10_method_60_code
def yX8_differ : MethodName := ⟨RX8, "differ", "(II)I"⟩
abbrev cX8_notes : ByteArray := prog_10_method_61_code
def yX8_notes : MethodName := ⟨RX8, "notes", "()V"⟩
abbrev cX8_take : ByteArray := prog_10_method_62_code
def yX8_take : MethodName := ⟨RX8, "take", "(II)I"⟩
abbrev cX8_put : ByteArray := prog_10_method_63_code
def yX8_put : MethodName := ⟨RX8, "put", "(II)I"⟩
abbrev cX8_plus : ByteArray := prog_10_method_64_code
def yX8_plus : MethodName := ⟨RX8, "plus", "(III)I"⟩
abbrev cX8_act : ByteArray := prog_10_method_65_code
def yX8_act : MethodName := ⟨RX8, "act", "(II)I"⟩
abbrev cX8_raise : ByteArray := prog_10_method_66_code
def yX8_raise : MethodName := ⟨RX8, "raise", "(I)I"⟩
abbrev cX8_shift : ByteArray := prog_10_method_67_code
def yX8_shift : MethodName := ⟨RX8, "shift", "(I)I"⟩
abbrev cX8_times : ByteArray := prog_10_method_68_code
def yX8_times : MethodName := ⟨RX8, "times", "()I"⟩
abbrev cX8_swap : ByteArray := prog_10_method_69_code
def yX8_swap : MethodName := ⟨RX8, "swap", "(II)I"⟩
abbrev cX8_climb : ByteArray := prog_10_method_70_code
def yX8_climb : MethodName := ⟨RX8, "climb", "(I)I"⟩
abbrev cX8_weigh : ByteArray := prog_10_method_71_code
def yX8_weigh : MethodName := ⟨RX8, "weigh", "(I)I"⟩
abbrev cX8_undo : ByteArray := prog_10_method_72_code
def yX8_undo : MethodName := ⟨RX8, "undo", "()I"⟩
abbrev cX8_hand : ByteArray := prog_10_method_73_code
def yX8_hand : MethodName := ⟨RX8, "hand", "(I)I"⟩
abbrev cX8_at : ByteArray := prog_10_method_74_code
def yX8_at : MethodName := ⟨RX8, "at", "(I)I"⟩
abbrev cX8_expand : ByteArray := prog_10_method_75_code
def yX8_expand : MethodName := ⟨RX8, "expand", "(II)I"⟩
abbrev cX8_sum : ByteArray := prog_10_method_76_code
def yX8_sum : MethodName := ⟨RX8, "sum", "(I)I"⟩
abbrev cX8_many : ByteArray := prog_10_method_77_code
def yX8_many : MethodName := ⟨RX8, "many", "()I"⟩
abbrev cX8_keep : ByteArray := prog_10_method_78_code
def yX8_keep : MethodName := ⟨RX8, "keep", "(I)I"⟩
abbrev cX8_back : ByteArray := prog_10_method_79_code
def yX8_back : MethodName := ⟨RX8, "back", "(I)I"⟩
abbrev cX8_leastOf : ByteArray := prog_10_method_80_code
def yX8_leastOf : MethodName := ⟨RX8, "leastOf", "(I)I"⟩
abbrev cX8_degree : ByteArray := prog_10_method_81_code
def yX8_degree : MethodName := ⟨RX8, "degree", "()I"⟩
abbrev cX8_count : ByteArray := prog_10_method_82_code
def yX8_count : MethodName := ⟨RX8, "count", "(I)I"⟩
def RJ9 : String := "java/lang/Math"
def TJ9 : u_T := fun k => match k with
  | _ => ("", "", "", false)
def tyJ9 : Nat → FieldType := fun k => match k with
  | _ => .int
abbrev wsJ90 : List Cond := u_ws RJ9 TJ9 0
theorem nmJ9 : ∀ a, a < 0 → ∀ b, b < 0 → a ≠ b → (TJ9 a).2.1 ≠ (TJ9 b).2.1 := by decide +kernel
theorem tyJ9_ok : ∀ k, k < 0 → parseFieldDescriptor (TJ9 k).2.2.1 = some (tyJ9 k) := by decide +kernel
abbrev cJ9_min_7cf53 : ByteArray := prog_11_method_69_code
def yJ9_min_7cf53 : MethodName := ⟨RJ9, "min", "(II)I"⟩
def RJ10 : String := "java/lang/System"
def TJ10 : u_T := fun k => match k with
  | _ => ("", "", "", false)
def tyJ10 : Nat → FieldType := fun k => match k with
  | _ => .int
abbrev wsJ100 : List Cond := u_ws RJ10 TJ10 0
theorem nmJ10 : ∀ a, a < 0 → ∀ b, b < 0 → a ≠ b → (TJ10 a).2.1 ≠ (TJ10 b).2.1 := by decide +kernel
theorem tyJ10_ok : ∀ k, k < 0 → parseFieldDescriptor (TJ10 k).2.2.1 = some (tyJ10 k) := by decide +kernel
def RL : String := "ShadowRowDeskLaw"
abbrev cL_law : ByteArray := code
def yL_law : MethodName := ⟨RL, "law", "([I)Z"⟩
end
section
/-! the words that every method's contract stands on: those of the tables that may be carried into a call -/
def gw : List Cond := lw_tbl.filter goodWord
theorem gw_at {w : Cond} (i : Nat) (h : lw_tbl[i]? = some w) (g : goodWord w = true) : w ∈ gw := List.mem_filter.mpr ⟨List.mem_of_getElem? h, g⟩
theorem gw_sub (ws : List Cond) (ps : List Nat) (hp : ws = ps.filterMap (fun i => lw_tbl[i]?)) : ∀ w ∈ ws, w ∈ lw_tbl := fun w hw => by
  rw [hp] at hw
  obtain ⟨i, -, hi⟩ := List.mem_filterMap.mp hw
  exact List.mem_of_getElem? hi
theorem gw_in (ws : List Cond) (ps : List Nat) (hp : ws = ps.filterMap (fun i => lw_tbl[i]?)) (h : ws.all goodWord = true) : ∀ w ∈ ws, w ∈ gw := fun w hw => List.mem_filter.mpr ⟨gw_sub ws ps hp w hw, List.all_eq_true.mp h w hw⟩
theorem gw_good : GoodIn gw gw := fun w hw => ⟨hw, good_of_word (List.mem_filter.mp hw).2⟩
theorem inX0 : ∀ w ∈ wsX00, w ∈ gw := gw_in _ [266, 268, 270, 272] (by decide +kernel) (by decide +kernel)
theorem inX1 : ∀ w ∈ wsX10, w ∈ gw := gw_in _ [291, 293, 295, 297] (by decide +kernel) (by decide +kernel)
theorem inX3 : ∀ w ∈ wsX30, w ∈ gw := gw_in _ [161, 163, 165, 167] (by decide +kernel) (by decide +kernel)
theorem inX4 : ∀ w ∈ wsX40, w ∈ gw := gw_in _ [96, 98, 100, 102, 104, 106, 108, 110] (by decide +kernel) (by decide +kernel)
theorem inX5 : ∀ w ∈ wsX50, w ∈ gw := gw_in _ [236, 238, 240, 242, 244, 246, 248, 250] (by decide +kernel) (by decide +kernel)
theorem inX6 : ∀ w ∈ wsX60, w ∈ gw := gw_in _ [132, 134, 136, 138, 140, 142, 144, 146] (by decide +kernel) (by decide +kernel)
theorem inX7 : ∀ w ∈ wsX70, w ∈ gw := gw_in _ [310, 312, 314, 316, 318, 320, 322, 324, 326, 328] (by decide +kernel) (by decide +kernel)
theorem inX8 : ∀ w ∈ wsX80, w ∈ gw := gw_in _ [704, 706, 708, 710, 712, 714, 716, 718, 720, 722, 724, 726, 728, 730, 732, 734, 736, 738, 740, 742, 744, 746, 748, 750, 752, 754, 756, 758, 760, 762, 764, 766, 768, 770, 772, 774, 776] (by decide +kernel) (by decide +kernel)
def nws : List Cond := [Cond.methodLinkNest RX7 18 yX6_init "ShadowRowDesk", Cond.methodLinkNest RX5 39 yX7_setMonomial "ShadowRowDesk", Cond.methodLinkNest RX4 52 yX7_setMonomial "ShadowRowDesk", Cond.methodLinkNest RX4 62 yX7_copy "ShadowRowDesk", Cond.methodLinkNest RX7 41 yX0_init "ShadowRowDesk", Cond.methodLinkNest RX7 52 yX1_init "ShadowRowDesk", Cond.methodLinkNest RX3 72 yX7_setMonomial "ShadowRowDesk", Cond.methodLinkNest RX3 76 yX7_addMultiple "ShadowRowDesk", Cond.methodLinkNest RX3 89 yX7_copy "ShadowRowDesk", Cond.methodLinkNest RX5 46 yX7_copy "ShadowRowDesk", Cond.methodLinkNest RX5 79 yX7_addMultiple "ShadowRowDesk", Cond.methodLinkNest RX0 27 yX7_copy "ShadowRowDesk", Cond.methodLinkNest RX4 76 yX7_moveUp "ShadowRowDesk"]
theorem nws_in : ∀ w ∈ nws, w ∈ lw_tbl := fun w h => (gw_sub nws [116, 178, 189, 210, 255, 278, 415, 423, 434, 462, 528, 544, 578] (by decide +kernel)) w h
theorem nlX7_18 : Cond.methodLinkNest RX7 18 yX6_init "ShadowRowDesk" ∈ nws := List.mem_of_getElem? (i := 0) rfl
theorem nlX5_39 : Cond.methodLinkNest RX5 39 yX7_setMonomial "ShadowRowDesk" ∈ nws := List.mem_of_getElem? (i := 1) rfl
theorem nlX4_52 : Cond.methodLinkNest RX4 52 yX7_setMonomial "ShadowRowDesk" ∈ nws := List.mem_of_getElem? (i := 2) rfl
theorem nlX4_62 : Cond.methodLinkNest RX4 62 yX7_copy "ShadowRowDesk" ∈ nws := List.mem_of_getElem? (i := 3) rfl
theorem nlX7_41 : Cond.methodLinkNest RX7 41 yX0_init "ShadowRowDesk" ∈ nws := List.mem_of_getElem? (i := 4) rfl
theorem nlX7_52 : Cond.methodLinkNest RX7 52 yX1_init "ShadowRowDesk" ∈ nws := List.mem_of_getElem? (i := 5) rfl
theorem nlX3_72 : Cond.methodLinkNest RX3 72 yX7_setMonomial "ShadowRowDesk" ∈ nws := List.mem_of_getElem? (i := 6) rfl
theorem nlX3_76 : Cond.methodLinkNest RX3 76 yX7_addMultiple "ShadowRowDesk" ∈ nws := List.mem_of_getElem? (i := 7) rfl
theorem nlX3_89 : Cond.methodLinkNest RX3 89 yX7_copy "ShadowRowDesk" ∈ nws := List.mem_of_getElem? (i := 8) rfl
theorem nlX5_46 : Cond.methodLinkNest RX5 46 yX7_copy "ShadowRowDesk" ∈ nws := List.mem_of_getElem? (i := 9) rfl
theorem nlX5_79 : Cond.methodLinkNest RX5 79 yX7_addMultiple "ShadowRowDesk" ∈ nws := List.mem_of_getElem? (i := 10) rfl
theorem nlX0_27 : Cond.methodLinkNest RX0 27 yX7_copy "ShadowRowDesk" ∈ nws := List.mem_of_getElem? (i := 11) rfl
theorem nlX4_76 : Cond.methodLinkNest RX4 76 yX7_moveUp "ShadowRowDesk" ∈ nws := List.mem_of_getElem? (i := 12) rfl
theorem ao_ints : Cond.arrayOver (.array .int) ∈ lw_tbl := List.mem_of_getElem? (i := 156) (by decide +kernel)
theorem ao_X5 : Cond.arrayOver (.object RX5) ∈ lw_tbl := List.mem_of_getElem? (i := 171) (by decide +kernel)
theorem ao_X1 : Cond.arrayOver (.object RX1) ∈ lw_tbl := List.mem_of_getElem? (i := 276) (by decide +kernel)
theorem ini_L : Cond.initialized RL ∈ gw := gw_at 50 (by decide +kernel) rfl
theorem ini_X7 : Cond.initialized RX7 ∈ gw := gw_at 51 (by decide +kernel) rfl
theorem ini_X4 : Cond.initialized RX4 ∈ gw := gw_at 52 (by decide +kernel) rfl
theorem ini_X2 : Cond.initialized RX2 ∈ gw := gw_at 53 (by decide +kernel) rfl
theorem ini_X6 : Cond.initialized RX6 ∈ gw := gw_at 54 (by decide +kernel) rfl
theorem ini_X3 : Cond.initialized RX3 ∈ gw := gw_at 55 (by decide +kernel) rfl
theorem ini_X5 : Cond.initialized RX5 ∈ gw := gw_at 56 (by decide +kernel) rfl
theorem ini_J10 : Cond.initialized RJ10 ∈ gw := gw_at 57 (by decide +kernel) rfl
theorem ini_X0 : Cond.initialized RX0 ∈ gw := gw_at 58 (by decide +kernel) rfl
theorem ini_X1 : Cond.initialized RX1 ∈ gw := gw_at 59 (by decide +kernel) rfl
theorem ini_X8 : Cond.initialized RX8 ∈ gw := gw_at 60 (by decide +kernel) rfl
theorem ini_J9 : Cond.initialized RJ9 ∈ gw := gw_at 61 (by decide +kernel) rfl
theorem lcL_7 : Cond.classLink RL 7 RX7 ∈ gw := gw_at 62 (by decide +kernel) rfl
theorem ib_X7 : Cond.instantiable RX7 10 ∈ gw := gw_at 63 (by decide +kernel) rfl
theorem lkL_9 : Cond.methodLink RL 9 yX7_init ∈ gw := gw_at 64 (by decide +kernel) rfl
theorem im_X7_init : Cond.instanceMethod yX7_init ∈ gw := gw_at 65 (by decide +kernel) rfl
theorem cd_X7_init : Cond.code yX7_init cX7_init 2 none ∈ gw := gw_at 66 (by decide +kernel) rfl
theorem lkX7_3 : Cond.methodLink RX7 3 objectInit ∈ gw := gw_at 67 (by decide +kernel) rfl
theorem im_objectInit : Cond.instanceMethod objectInit ∈ gw := gw_at 68 (by decide +kernel) rfl
theorem cd_objectInit : Cond.code objectInit ⟨#[0xb1]⟩ 1 none ∈ gw := gw_at 69 (by decide +kernel) rfl
theorem lcX7_9 : Cond.classLink RX7 9 RX4 ∈ gw := gw_at 70 (by decide +kernel) rfl
theorem ib_X4 : Cond.instantiable RX4 8 ∈ gw := gw_at 71 (by decide +kernel) rfl
theorem lkX7_11 : Cond.methodLink RX7 11 yX4_init ∈ gw := gw_at 72 (by decide +kernel) rfl
theorem im_X4_init : Cond.instanceMethod yX4_init ∈ gw := gw_at 73 (by decide +kernel) rfl
theorem cd_X4_init : Cond.code yX4_init cX4_init 4 none ∈ gw := gw_at 74 (by decide +kernel) rfl
theorem lkX4_3 : Cond.methodLink RX4 3 objectInit ∈ gw := gw_at 75 (by decide +kernel) rfl
theorem lkX4_36 : Cond.methodLink RX4 36 yX2_inverse ∈ gw := gw_at 76 (by decide +kernel) rfl
theorem st_X2_inverse : Cond.static yX2_inverse ∈ gw := gw_at 77 (by decide +kernel) rfl
theorem cd_X2_inverse : Cond.code yX2_inverse cX2_inverse 4 (some .int) ∈ gw := gw_at 78 (by decide +kernel) rfl
theorem lkX4_42 : Cond.methodLink RX4 42 yX2_multiply ∈ gw := gw_at 79 (by decide +kernel) rfl
theorem st_X2_multiply : Cond.static yX2_multiply ∈ gw := gw_at 80 (by decide +kernel) rfl
theorem cd_X2_multiply : Cond.code yX2_multiply cX2_multiply 2 (some .int) ∈ gw := gw_at 81 (by decide +kernel) rfl
theorem lkX4_46 : Cond.methodLink RX4 46 yX2_subtract ∈ gw := gw_at 82 (by decide +kernel) rfl
theorem st_X2_subtract : Cond.static yX2_subtract ∈ gw := gw_at 83 (by decide +kernel) rfl
theorem cd_X2_subtract : Cond.code yX2_subtract cX2_subtract 2 (some .int) ∈ gw := gw_at 84 (by decide +kernel) rfl
theorem lfX4_9 : Cond.fieldLink RX4 9 "ShadowRowDesk$Reckoner" "exponential" "[I" ∈ gw := gw_at 85 (by decide +kernel) rfl
theorem lfX3_103 : Cond.fieldLink RX3 103 "ShadowRowDesk$Reckoner" "exponential" "[I" ∈ gw := gw_at 86 (by decide +kernel) rfl
theorem lfX4_15 : Cond.fieldLink RX4 15 "ShadowRowDesk$Reckoner" "quotient" "[I" ∈ gw := gw_at 87 (by decide +kernel) rfl
theorem lfX3_106 : Cond.fieldLink RX3 106 "ShadowRowDesk$Reckoner" "quotient" "[I" ∈ gw := gw_at 88 (by decide +kernel) rfl
theorem lfX4_18 : Cond.fieldLink RX4 18 "ShadowRowDesk$Reckoner" "logarithm" "[I" ∈ gw := gw_at 89 (by decide +kernel) rfl
theorem lfX3_109 : Cond.fieldLink RX3 109 "ShadowRowDesk$Reckoner" "logarithm" "[I" ∈ gw := gw_at 90 (by decide +kernel) rfl
theorem lfX4_21 : Cond.fieldLink RX4 21 "ShadowRowDesk$Reckoner" "factorial" "[I" ∈ gw := gw_at 91 (by decide +kernel) rfl
theorem lfX4_24 : Cond.fieldLink RX4 24 "ShadowRowDesk$Reckoner" "nested" "[I" ∈ gw := gw_at 92 (by decide +kernel) rfl
theorem lfX4_27 : Cond.fieldLink RX4 27 "ShadowRowDesk$Reckoner" "lowered" "[I" ∈ gw := gw_at 93 (by decide +kernel) rfl
theorem lfX4_30 : Cond.fieldLink RX4 30 "ShadowRowDesk$Reckoner" "overLowered" "[I" ∈ gw := gw_at 94 (by decide +kernel) rfl
theorem lfX4_33 : Cond.fieldLink RX4 33 "ShadowRowDesk$Reckoner" "power" "[I" ∈ gw := gw_at 95 (by decide +kernel) rfl
theorem ac_int : Cond.arrayClass .int ∈ gw := gw_at 113 (by decide +kernel) rfl
theorem lcX7_16 : Cond.classLink RX7 16 RX6 ∈ gw := gw_at 114 (by decide +kernel) rfl
theorem ib_X6 : Cond.instantiable RX6 8 ∈ gw := gw_at 115 (by decide +kernel) rfl
theorem im_X6_init : Cond.instanceMethod yX6_init ∈ gw := gw_at 117 (by decide +kernel) rfl
theorem cd_X6_init : Cond.code yX6_init cX6_init 1 none ∈ gw := gw_at 118 (by decide +kernel) rfl
theorem lkX6_3 : Cond.methodLink RX6 3 objectInit ∈ gw := gw_at 119 (by decide +kernel) rfl
theorem lfX6_9 : Cond.fieldLink RX6 9 "ShadowRowDesk$Text" "steps" "[I" ∈ gw := gw_at 120 (by decide +kernel) rfl
theorem lfX3_33 : Cond.fieldLink RX3 33 "ShadowRowDesk$Text" "steps" "[I" ∈ gw := gw_at 121 (by decide +kernel) rfl
theorem lfX6_15 : Cond.fieldLink RX6 15 "ShadowRowDesk$Text" "amounts" "[I" ∈ gw := gw_at 122 (by decide +kernel) rfl
theorem lfX3_36 : Cond.fieldLink RX3 36 "ShadowRowDesk$Text" "amounts" "[I" ∈ gw := gw_at 123 (by decide +kernel) rfl
theorem lfX6_18 : Cond.fieldLink RX6 18 "ShadowRowDesk$Text" "stepCount" "I" ∈ gw := gw_at 124 (by decide +kernel) rfl
theorem lfX3_28 : Cond.fieldLink RX3 28 "ShadowRowDesk$Text" "stepCount" "I" ∈ gw := gw_at 125 (by decide +kernel) rfl
theorem lfX6_22 : Cond.fieldLink RX6 22 "ShadowRowDesk$Text" "length" "I" ∈ gw := gw_at 126 (by decide +kernel) rfl
theorem lfX7_70 : Cond.fieldLink RX7 70 "ShadowRowDesk$Text" "length" "I" ∈ gw := gw_at 127 (by decide +kernel) rfl
theorem lfX6_25 : Cond.fieldLink RX6 25 "ShadowRowDesk$Text" "letters" "[I" ∈ gw := gw_at 128 (by decide +kernel) rfl
theorem lfX6_28 : Cond.fieldLink RX6 28 "ShadowRowDesk$Text" "place" "I" ∈ gw := gw_at 129 (by decide +kernel) rfl
theorem lfX6_31 : Cond.fieldLink RX6 31 "ShadowRowDesk$Text" "end" "I" ∈ gw := gw_at 130 (by decide +kernel) rfl
theorem lfX6_34 : Cond.fieldLink RX6 34 "ShadowRowDesk$Text" "first" "I" ∈ gw := gw_at 131 (by decide +kernel) rfl
theorem lcX7_23 : Cond.classLink RX7 23 RX3 ∈ gw := gw_at 149 (by decide +kernel) rfl
theorem ib_X3 : Cond.instantiable RX3 4 ∈ gw := gw_at 150 (by decide +kernel) rfl
theorem lkX7_25 : Cond.methodLink RX7 25 yX3_init ∈ gw := gw_at 151 (by decide +kernel) rfl
theorem im_X3_init : Cond.instanceMethod yX3_init ∈ gw := gw_at 152 (by decide +kernel) rfl
theorem cd_X3_init : Cond.code yX3_init cX3_init 2 none ∈ gw := gw_at 153 (by decide +kernel) rfl
theorem lkX3_3 : Cond.methodLink RX3 3 objectInit ∈ gw := gw_at 154 (by decide +kernel) rfl
theorem lcX3_9 : Cond.classLink RX3 9 "[[I" ∈ gw := gw_at 155 (by decide +kernel) rfl
theorem lfX3_24 : Cond.fieldLink RX3 24 "ShadowRowDesk$Reader" "reckoner" "LShadowRowDesk$Reckoner;" ∈ gw := gw_at 157 (by decide +kernel) rfl
theorem lfX3_11 : Cond.fieldLink RX3 11 "ShadowRowDesk$Reader" "pile" "[[I" ∈ gw := gw_at 158 (by decide +kernel) rfl
theorem lfX3_16 : Cond.fieldLink RX3 16 "ShadowRowDesk$Reader" "base" "[I" ∈ gw := gw_at 159 (by decide +kernel) rfl
theorem lfX3_20 : Cond.fieldLink RX3 20 "ShadowRowDesk$Reader" "height" "I" ∈ gw := gw_at 160 (by decide +kernel) rfl
theorem lcX7_32 : Cond.classLink RX7 32 RX5 ∈ gw := gw_at 170 (by decide +kernel) rfl
theorem ib_X5 : Cond.instantiable RX5 8 ∈ gw := gw_at 172 (by decide +kernel) rfl
theorem lkX7_38 : Cond.methodLink RX7 38 yX5_init ∈ gw := gw_at 173 (by decide +kernel) rfl
theorem im_X5_init : Cond.instanceMethod yX5_init ∈ gw := gw_at 174 (by decide +kernel) rfl
theorem cd_X5_init : Cond.code yX5_init cX5_init 2 none ∈ gw := gw_at 175 (by decide +kernel) rfl
theorem lkX5_3 : Cond.methodLink RX5 3 objectInit ∈ gw := gw_at 176 (by decide +kernel) rfl
theorem lcX5_24 : Cond.classLink RX5 24 "[[I" ∈ gw := gw_at 177 (by decide +kernel) rfl
theorem st_X7_setMonomial : Cond.static yX7_setMonomial ∈ gw := gw_at 179 (by decide +kernel) rfl
theorem cd_X7_setMonomial : Cond.code yX7_setMonomial cX7_setMonomial 4 none ∈ gw := gw_at 180 (by decide +kernel) rfl
theorem lkX5_43 : Cond.methodLink RX5 43 yX5_reckonAll ∈ gw := gw_at 181 (by decide +kernel) rfl
theorem im_X5_reckonAll : Cond.instanceMethod yX5_reckonAll ∈ gw := gw_at 183 (by decide +kernel) rfl
theorem cd_X5_reckonAll : Cond.code yX5_reckonAll cX5_reckonAll 1 none ∈ gw := gw_at 184 (by decide +kernel) rfl
theorem lkX5_50 : Cond.methodLink RX5 50 yX4_overSeries ∈ gw := gw_at 185 (by decide +kernel) rfl
theorem im_X4_overSeries : Cond.instanceMethod yX4_overSeries ∈ gw := gw_at 186 (by decide +kernel) rfl
theorem se_X4_overSeries : Cond.selects RX4 yX4_overSeries yX4_overSeries ∈ gw := gw_at 187 (by decide +kernel) rfl
theorem cd_X4_overSeries : Cond.code yX4_overSeries cX4_overSeries 3 none ∈ gw := gw_at 188 (by decide +kernel) rfl
theorem lkX4_56 : Cond.methodLink RX4 56 yX4_divide ∈ gw := gw_at 190 (by decide +kernel) rfl
theorem im_X4_divide : Cond.instanceMethod yX4_divide ∈ gw := gw_at 191 (by decide +kernel) rfl
theorem se_X4_divide : Cond.selects RX4 yX4_divide yX4_divide ∈ gw := gw_at 192 (by decide +kernel) rfl
theorem cd_X4_divide : Cond.code yX4_divide cX4_divide 8 none ∈ gw := gw_at 193 (by decide +kernel) rfl
theorem lkX5_55 : Cond.methodLink RX5 55 yX4_turnInsideOut ∈ gw := gw_at 194 (by decide +kernel) rfl
theorem im_X4_turnInsideOut : Cond.instanceMethod yX4_turnInsideOut ∈ gw := gw_at 195 (by decide +kernel) rfl
theorem se_X4_turnInsideOut : Cond.selects RX4 yX4_turnInsideOut yX4_turnInsideOut ∈ gw := gw_at 196 (by decide +kernel) rfl
theorem cd_X4_turnInsideOut : Cond.code yX4_turnInsideOut cX4_turnInsideOut 5 none ∈ gw := gw_at 197 (by decide +kernel) rfl
theorem lkX4_66 : Cond.methodLink RX4 66 yX4_lower ∈ gw := gw_at 198 (by decide +kernel) rfl
theorem im_X4_lower : Cond.instanceMethod yX4_lower ∈ gw := gw_at 200 (by decide +kernel) rfl
theorem cd_X4_lower : Cond.code yX4_lower cX4_lower 3 none ∈ gw := gw_at 201 (by decide +kernel) rfl
theorem lkX4_70 : Cond.methodLink RX4 70 yX4_overSeries ∈ gw := gw_at 202 (by decide +kernel) rfl
theorem lkX4_60 : Cond.methodLink RX4 60 yX4_multiply ∈ gw := gw_at 203 (by decide +kernel) rfl
theorem im_X4_multiply : Cond.instanceMethod yX4_multiply ∈ gw := gw_at 204 (by decide +kernel) rfl
theorem se_X4_multiply : Cond.selects RX4 yX4_multiply yX4_multiply ∈ gw := gw_at 205 (by decide +kernel) rfl
theorem cd_X4_multiply : Cond.code yX4_multiply cX4_multiply 7 none ∈ gw := gw_at 206 (by decide +kernel) rfl
theorem lkX4_49 : Cond.methodLink RX4 49 yX2_add ∈ gw := gw_at 207 (by decide +kernel) rfl
theorem st_X2_add : Cond.static yX2_add ∈ gw := gw_at 208 (by decide +kernel) rfl
theorem cd_X2_add : Cond.code yX2_add cX2_add 2 (some .int) ∈ gw := gw_at 209 (by decide +kernel) rfl
theorem st_X7_copy : Cond.static yX7_copy ∈ gw := gw_at 211 (by decide +kernel) rfl
theorem cd_X7_copy : Cond.code yX7_copy cX7_copy 2 none ∈ gw := gw_at 212 (by decide +kernel) rfl
theorem lkX7_227 : Cond.methodLink RX7 227 arraycopyName ∈ gw := gw_at 213 (by decide +kernel) rfl
theorem st_arraycopyName : Cond.static arraycopyName ∈ gw := gw_at 214 (by decide +kernel) rfl
theorem na_arraycopy : Cond.native arraycopyName ∈ gw := gw_at 215 (by decide +kernel) rfl
theorem lkX5_58 : Cond.methodLink RX5 58 yX4_putInside ∈ gw := gw_at 216 (by decide +kernel) rfl
theorem im_X4_putInside : Cond.instanceMethod yX4_putInside ∈ gw := gw_at 217 (by decide +kernel) rfl
theorem se_X4_putInside : Cond.selects RX4 yX4_putInside yX4_putInside ∈ gw := gw_at 218 (by decide +kernel) rfl
theorem cd_X4_putInside : Cond.code yX4_putInside cX4_putInside 5 none ∈ gw := gw_at 219 (by decide +kernel) rfl
theorem lkX5_62 : Cond.methodLink RX5 62 yX4_tellPolynomials ∈ gw := gw_at 220 (by decide +kernel) rfl
theorem im_X4_tellPolynomials : Cond.instanceMethod yX4_tellPolynomials ∈ gw := gw_at 221 (by decide +kernel) rfl
theorem se_X4_tellPolynomials : Cond.selects RX4 yX4_tellPolynomials yX4_tellPolynomials ∈ gw := gw_at 222 (by decide +kernel) rfl
theorem cd_X4_tellPolynomials : Cond.code yX4_tellPolynomials cX4_tellPolynomials 7 none ∈ gw := gw_at 223 (by decide +kernel) rfl
theorem lfX5_9 : Cond.fieldLink RX5 9 "ShadowRowDesk$Row" "g" "[I" ∈ gw := gw_at 224 (by decide +kernel) rfl
theorem lfX7_99 : Cond.fieldLink RX7 99 "ShadowRowDesk$Row" "g" "[I" ∈ gw := gw_at 225 (by decide +kernel) rfl
theorem lfX5_15 : Cond.fieldLink RX5 15 "ShadowRowDesk$Row" "f" "[I" ∈ gw := gw_at 226 (by decide +kernel) rfl
theorem lfX7_102 : Cond.fieldLink RX7 102 "ShadowRowDesk$Row" "f" "[I" ∈ gw := gw_at 227 (by decide +kernel) rfl
theorem lfX5_18 : Cond.fieldLink RX5 18 "ShadowRowDesk$Row" "overG" "[I" ∈ gw := gw_at 228 (by decide +kernel) rfl
theorem lfX5_21 : Cond.fieldLink RX5 21 "ShadowRowDesk$Row" "turnedF" "[I" ∈ gw := gw_at 229 (by decide +kernel) rfl
theorem lfX7_112 : Cond.fieldLink RX7 112 "ShadowRowDesk$Row" "turnedF" "[I" ∈ gw := gw_at 230 (by decide +kernel) rfl
theorem lfX5_26 : Cond.fieldLink RX5 26 "ShadowRowDesk$Row" "polynomials" "[[I" ∈ gw := gw_at 231 (by decide +kernel) rfl
theorem lfX7_150 : Cond.fieldLink RX7 150 "ShadowRowDesk$Row" "polynomials" "[[I" ∈ gw := gw_at 232 (by decide +kernel) rfl
theorem lfX5_35 : Cond.fieldLink RX5 35 "ShadowRowDesk$Row" "reckoner" "LShadowRowDesk$Reckoner;" ∈ gw := gw_at 233 (by decide +kernel) rfl
theorem lfX5_29 : Cond.fieldLink RX5 29 "ShadowRowDesk$Row" "first" "[I" ∈ gw := gw_at 234 (by decide +kernel) rfl
theorem lfX5_32 : Cond.fieldLink RX5 32 "ShadowRowDesk$Row" "rest" "[I" ∈ gw := gw_at 235 (by decide +kernel) rfl
theorem lcX7_39 : Cond.classLink RX7 39 RX0 ∈ gw := gw_at 253 (by decide +kernel) rfl
theorem ib_X0 : Cond.instantiable RX0 4 ∈ gw := gw_at 254 (by decide +kernel) rfl
theorem im_X0_init : Cond.instanceMethod yX0_init ∈ gw := gw_at 256 (by decide +kernel) rfl
theorem cd_X0_init : Cond.code yX0_init cX0_init 1 none ∈ gw := gw_at 257 (by decide +kernel) rfl
theorem lkX0_3 : Cond.methodLink RX0 3 objectInit ∈ gw := gw_at 258 (by decide +kernel) rfl
theorem lcX0_19 : Cond.classLink RX0 19 "[[I" ∈ gw := gw_at 259 (by decide +kernel) rfl
theorem lfX0_9 : Cond.fieldLink RX0 9 "ShadowRowDesk$Hand" "p" "[I" ∈ gw := gw_at 260 (by decide +kernel) rfl
theorem lfX7_168 : Cond.fieldLink RX7 168 "ShadowRowDesk$Hand" "p" "[I" ∈ gw := gw_at 261 (by decide +kernel) rfl
theorem lfX0_15 : Cond.fieldLink RX0 15 "ShadowRowDesk$Hand" "undoable" "I" ∈ gw := gw_at 262 (by decide +kernel) rfl
theorem lfX7_197 : Cond.fieldLink RX7 197 "ShadowRowDesk$Hand" "undoable" "I" ∈ gw := gw_at 263 (by decide +kernel) rfl
theorem lfX0_21 : Cond.fieldLink RX0 21 "ShadowRowDesk$Hand" "past" "[[I" ∈ gw := gw_at 264 (by decide +kernel) rfl
theorem lfX0_24 : Cond.fieldLink RX0 24 "ShadowRowDesk$Hand" "next" "I" ∈ gw := gw_at 265 (by decide +kernel) rfl
theorem lcX7_46 : Cond.classLink RX7 46 RX1 ∈ gw := gw_at 275 (by decide +kernel) rfl
theorem ib_X1 : Cond.instantiable RX1 4 ∈ gw := gw_at 277 (by decide +kernel) rfl
theorem im_X1_init : Cond.instanceMethod yX1_init ∈ gw := gw_at 279 (by decide +kernel) rfl
theorem cd_X1_init : Cond.code yX1_init cX1_init 1 none ∈ gw := gw_at 280 (by decide +kernel) rfl
theorem lkX1_3 : Cond.methodLink RX1 3 objectInit ∈ gw := gw_at 281 (by decide +kernel) rfl
theorem lcX1_9 : Cond.classLink RX1 9 "[[I" ∈ gw := gw_at 282 (by decide +kernel) rfl
theorem lfX1_11 : Cond.fieldLink RX1 11 "ShadowRowDesk$Kept" "g" "[[I" ∈ gw := gw_at 283 (by decide +kernel) rfl
theorem lfX7_206 : Cond.fieldLink RX7 206 "ShadowRowDesk$Kept" "g" "[[I" ∈ gw := gw_at 284 (by decide +kernel) rfl
theorem lfX1_16 : Cond.fieldLink RX1 16 "ShadowRowDesk$Kept" "f" "[[I" ∈ gw := gw_at 285 (by decide +kernel) rfl
theorem lfX7_208 : Cond.fieldLink RX7 208 "ShadowRowDesk$Kept" "f" "[[I" ∈ gw := gw_at 286 (by decide +kernel) rfl
theorem lfX1_19 : Cond.fieldLink RX1 19 "ShadowRowDesk$Kept" "p" "[I" ∈ gw := gw_at 287 (by decide +kernel) rfl
theorem lfX7_210 : Cond.fieldLink RX7 210 "ShadowRowDesk$Kept" "p" "[I" ∈ gw := gw_at 288 (by decide +kernel) rfl
theorem lfX1_23 : Cond.fieldLink RX1 23 "ShadowRowDesk$Kept" "filled" "Z" ∈ gw := gw_at 289 (by decide +kernel) rfl
theorem lfX7_211 : Cond.fieldLink RX7 211 "ShadowRowDesk$Kept" "filled" "Z" ∈ gw := gw_at 290 (by decide +kernel) rfl
theorem lfX7_12 : Cond.fieldLink RX7 12 "ShadowRowDesk" "reckoner" "LShadowRowDesk$Reckoner;" ∈ gw := gw_at 300 (by decide +kernel) rfl
theorem lfX7_19 : Cond.fieldLink RX7 19 "ShadowRowDesk" "text" "LShadowRowDesk$Text;" ∈ gw := gw_at 301 (by decide +kernel) rfl
theorem lfX7_28 : Cond.fieldLink RX7 28 "ShadowRowDesk" "reader" "LShadowRowDesk$Reader;" ∈ gw := gw_at 302 (by decide +kernel) rfl
theorem lfX7_34 : Cond.fieldLink RX7 34 "ShadowRowDesk" "rows" "[LShadowRowDesk$Row;" ∈ gw := gw_at 303 (by decide +kernel) rfl
theorem lfX7_42 : Cond.fieldLink RX7 42 "ShadowRowDesk" "held" "LShadowRowDesk$Hand;" ∈ gw := gw_at 304 (by decide +kernel) rfl
theorem lfX7_48 : Cond.fieldLink RX7 48 "ShadowRowDesk" "kept" "[LShadowRowDesk$Kept;" ∈ gw := gw_at 305 (by decide +kernel) rfl
theorem lfX7_53 : Cond.fieldLink RX7 53 "ShadowRowDesk" "newG" "[I" ∈ gw := gw_at 306 (by decide +kernel) rfl
theorem lfX7_57 : Cond.fieldLink RX7 57 "ShadowRowDesk" "newF" "[I" ∈ gw := gw_at 307 (by decide +kernel) rfl
theorem lfX7_60 : Cond.fieldLink RX7 60 "ShadowRowDesk" "scratch" "[I" ∈ gw := gw_at 308 (by decide +kernel) rfl
theorem lfX7_63 : Cond.fieldLink RX7 63 "ShadowRowDesk" "numbers" "[I" ∈ gw := gw_at 309 (by decide +kernel) rfl
theorem lkL_13 : Cond.methodLink RL 13 yX7_write ∈ gw := gw_at 331 (by decide +kernel) rfl
theorem im_X7_write : Cond.instanceMethod yX7_write ∈ gw := gw_at 332 (by decide +kernel) rfl
theorem se_X7_write : Cond.selects RX7 yX7_write yX7_write ∈ gw := gw_at 333 (by decide +kernel) rfl
theorem cd_X7_write : Cond.code yX7_write cX7_write 2 (some .int) ∈ gw := gw_at 334 (by decide +kernel) rfl
theorem lkX7_66 : Cond.methodLink RX7 66 yX6_append ∈ gw := gw_at 335 (by decide +kernel) rfl
theorem im_X6_append : Cond.instanceMethod yX6_append ∈ gw := gw_at 336 (by decide +kernel) rfl
theorem se_X6_append : Cond.selects RX6 yX6_append yX6_append ∈ gw := gw_at 337 (by decide +kernel) rfl
theorem cd_X6_append : Cond.code yX6_append cX6_append 2 (some .boolean) ∈ gw := gw_at 338 (by decide +kernel) rfl
theorem lkL_18 : Cond.methodLink RL 18 yX7_erase ∈ gw := gw_at 339 (by decide +kernel) rfl
theorem im_X7_erase : Cond.instanceMethod yX7_erase ∈ gw := gw_at 340 (by decide +kernel) rfl
theorem se_X7_erase : Cond.selects RX7 yX7_erase yX7_erase ∈ gw := gw_at 341 (by decide +kernel) rfl
theorem cd_X7_erase : Cond.code yX7_erase cX7_erase 2 (some .int) ∈ gw := gw_at 342 (by decide +kernel) rfl
theorem lkX7_74 : Cond.methodLink RX7 74 yX6_clear ∈ gw := gw_at 343 (by decide +kernel) rfl
theorem im_X6_clear : Cond.instanceMethod yX6_clear ∈ gw := gw_at 344 (by decide +kernel) rfl
theorem se_X6_clear : Cond.selects RX6 yX6_clear yX6_clear ∈ gw := gw_at 345 (by decide +kernel) rfl
theorem cd_X6_clear : Cond.code yX6_clear cX6_clear 1 none ∈ gw := gw_at 346 (by decide +kernel) rfl
theorem lkL_23 : Cond.methodLink RL 23 yX7_fault ∈ gw := gw_at 347 (by decide +kernel) rfl
theorem im_X7_fault : Cond.instanceMethod yX7_fault ∈ gw := gw_at 348 (by decide +kernel) rfl
theorem se_X7_fault : Cond.selects RX7 yX7_fault yX7_fault ∈ gw := gw_at 349 (by decide +kernel) rfl
theorem cd_X7_fault : Cond.code yX7_fault cX7_fault 1 (some .int) ∈ gw := gw_at 350 (by decide +kernel) rfl
theorem lkX7_77 : Cond.methodLink RX7 77 yX6_firstFault ∈ gw := gw_at 351 (by decide +kernel) rfl
theorem im_X6_firstFault : Cond.instanceMethod yX6_firstFault ∈ gw := gw_at 352 (by decide +kernel) rfl
theorem se_X6_firstFault : Cond.selects RX6 yX6_firstFault yX6_firstFault ∈ gw := gw_at 353 (by decide +kernel) rfl
theorem cd_X6_firstFault : Cond.code yX6_firstFault cX6_firstFault 1 (some .int) ∈ gw := gw_at 354 (by decide +kernel) rfl
theorem lkX6_37 : Cond.methodLink RX6 37 yX6_toNextToken ∈ gw := gw_at 355 (by decide +kernel) rfl
theorem im_X6_toNextToken : Cond.instanceMethod yX6_toNextToken ∈ gw := gw_at 357 (by decide +kernel) rfl
theorem cd_X6_toNextToken : Cond.code yX6_toNextToken cX6_toNextToken 1 none ∈ gw := gw_at 358 (by decide +kernel) rfl
theorem lkX6_57 : Cond.methodLink RX6 57 yX6_isDigit ∈ gw := gw_at 359 (by decide +kernel) rfl
theorem st_X6_isDigit : Cond.static yX6_isDigit ∈ gw := gw_at 360 (by decide +kernel) rfl
theorem cd_X6_isDigit : Cond.code yX6_isDigit cX6_isDigit 1 (some .boolean) ∈ gw := gw_at 361 (by decide +kernel) rfl
theorem lkX6_40 : Cond.methodLink RX6 40 yX6_standsSum ∈ gw := gw_at 362 (by decide +kernel) rfl
theorem im_X6_standsSum : Cond.instanceMethod yX6_standsSum ∈ gw := gw_at 364 (by decide +kernel) rfl
theorem cd_X6_standsSum : Cond.code yX6_standsSum cX6_standsSum 4 (some .boolean) ∈ gw := gw_at 365 (by decide +kernel) rfl
theorem lkX6_44 : Cond.methodLink RX6 44 yX6_standsProduct ∈ gw := gw_at 366 (by decide +kernel) rfl
theorem im_X6_standsProduct : Cond.instanceMethod yX6_standsProduct ∈ gw := gw_at 368 (by decide +kernel) rfl
theorem cd_X6_standsProduct : Cond.code yX6_standsProduct cX6_standsProduct 4 (some .boolean) ∈ gw := gw_at 369 (by decide +kernel) rfl
theorem lkX6_51 : Cond.methodLink RX6 51 yX6_standsPower ∈ gw := gw_at 370 (by decide +kernel) rfl
theorem im_X6_standsPower : Cond.instanceMethod yX6_standsPower ∈ gw := gw_at 372 (by decide +kernel) rfl
theorem cd_X6_standsPower : Cond.code yX6_standsPower cX6_standsPower 2 (some .boolean) ∈ gw := gw_at 373 (by decide +kernel) rfl
theorem lkX6_54 : Cond.methodLink RX6 54 yX6_standsThing ∈ gw := gw_at 374 (by decide +kernel) rfl
theorem im_X6_standsThing : Cond.instanceMethod yX6_standsThing ∈ gw := gw_at 376 (by decide +kernel) rfl
theorem cd_X6_standsThing : Cond.code yX6_standsThing cX6_standsThing 3 (some .boolean) ∈ gw := gw_at 377 (by decide +kernel) rfl
theorem lkX6_47 : Cond.methodLink RX6 47 yX6_addStep ∈ gw := gw_at 378 (by decide +kernel) rfl
theorem im_X6_addStep : Cond.instanceMethod yX6_addStep ∈ gw := gw_at 380 (by decide +kernel) rfl
theorem cd_X6_addStep : Cond.code yX6_addStep cX6_addStep 3 none ∈ gw := gw_at 381 (by decide +kernel) rfl
theorem lkX6_64 : Cond.methodLink RX6 64 yX6_isNumber ∈ gw := gw_at 382 (by decide +kernel) rfl
theorem im_X6_isNumber : Cond.instanceMethod yX6_isNumber ∈ gw := gw_at 384 (by decide +kernel) rfl
theorem cd_X6_isNumber : Cond.code yX6_isNumber cX6_isNumber 1 (some .boolean) ∈ gw := gw_at 385 (by decide +kernel) rfl
theorem lkX6_60 : Cond.methodLink RX6 60 yX6_amount ∈ gw := gw_at 386 (by decide +kernel) rfl
theorem im_X6_amount : Cond.instanceMethod yX6_amount ∈ gw := gw_at 388 (by decide +kernel) rfl
theorem cd_X6_amount : Cond.code yX6_amount cX6_amount 3 (some .int) ∈ gw := gw_at 389 (by decide +kernel) rfl
theorem lkX6_71 : Cond.methodLink RX6 71 yX2_holds ∈ gw := gw_at 390 (by decide +kernel) rfl
theorem st_X2_holds : Cond.static yX2_holds ∈ gw := gw_at 391 (by decide +kernel) rfl
theorem cd_X2_holds : Cond.code yX2_holds cX2_holds 1 (some .boolean) ∈ gw := gw_at 392 (by decide +kernel) rfl
theorem lkX6_68 : Cond.methodLink RX6 68 yX6_isName ∈ gw := gw_at 393 (by decide +kernel) rfl
theorem st_X6_isName : Cond.static yX6_isName ∈ gw := gw_at 394 (by decide +kernel) rfl
theorem cd_X6_isName : Cond.code yX6_isName cX6_isName 1 (some .boolean) ∈ gw := gw_at 395 (by decide +kernel) rfl
theorem lkL_27 : Cond.methodLink RL 27 yX7_read ∈ gw := gw_at 396 (by decide +kernel) rfl
theorem im_X7_read : Cond.instanceMethod yX7_read ∈ gw := gw_at 397 (by decide +kernel) rfl
theorem se_X7_read : Cond.selects RX7 yX7_read yX7_read ∈ gw := gw_at 398 (by decide +kernel) rfl
theorem cd_X7_read : Cond.code yX7_read cX7_read 2 (some .int) ∈ gw := gw_at 399 (by decide +kernel) rfl
theorem lkX7_81 : Cond.methodLink RX7 81 yX7_isRow ∈ gw := gw_at 400 (by decide +kernel) rfl
theorem st_X7_isRow : Cond.static yX7_isRow ∈ gw := gw_at 401 (by decide +kernel) rfl
theorem cd_X7_isRow : Cond.code yX7_isRow cX7_isRow 1 (some .boolean) ∈ gw := gw_at 402 (by decide +kernel) rfl
theorem lkX7_84 : Cond.methodLink RX7 84 yX3_reckon ∈ gw := gw_at 403 (by decide +kernel) rfl
theorem im_X3_reckon : Cond.instanceMethod yX3_reckon ∈ gw := gw_at 404 (by decide +kernel) rfl
theorem se_X3_reckon : Cond.selects RX3 yX3_reckon yX3_reckon ∈ gw := gw_at 405 (by decide +kernel) rfl
theorem cd_X3_reckon : Cond.code yX3_reckon cX3_reckon 3 (some .boolean) ∈ gw := gw_at 406 (by decide +kernel) rfl
theorem lkX3_39 : Cond.methodLink RX3 39 yX3_goStep ∈ gw := gw_at 407 (by decide +kernel) rfl
theorem im_X3_goStep : Cond.instanceMethod yX3_goStep ∈ gw := gw_at 409 (by decide +kernel) rfl
theorem cd_X3_goStep : Cond.code yX3_goStep cX3_goStep 3 (some .boolean) ∈ gw := gw_at 410 (by decide +kernel) rfl
theorem lkX3_57 : Cond.methodLink RX3 57 yX3_pushMonomial ∈ gw := gw_at 411 (by decide +kernel) rfl
theorem im_X3_pushMonomial : Cond.instanceMethod yX3_pushMonomial ∈ gw := gw_at 413 (by decide +kernel) rfl
theorem cd_X3_pushMonomial : Cond.code yX3_pushMonomial cX3_pushMonomial 3 (some .boolean) ∈ gw := gw_at 414 (by decide +kernel) rfl
theorem lkX3_60 : Cond.methodLink RX3 60 yX3_joinTwo ∈ gw := gw_at 416 (by decide +kernel) rfl
theorem im_X3_joinTwo : Cond.instanceMethod yX3_joinTwo ∈ gw := gw_at 418 (by decide +kernel) rfl
theorem cd_X3_joinTwo : Cond.code yX3_joinTwo cX3_joinTwo 4 (some .boolean) ∈ gw := gw_at 419 (by decide +kernel) rfl
theorem lkX3_47 : Cond.methodLink RX3 47 yX3_isUnit ∈ gw := gw_at 420 (by decide +kernel) rfl
theorem st_X3_isUnit : Cond.static yX3_isUnit ∈ gw := gw_at 421 (by decide +kernel) rfl
theorem cd_X3_isUnit : Cond.code yX3_isUnit cX3_isUnit 1 (some .boolean) ∈ gw := gw_at 422 (by decide +kernel) rfl
theorem st_X7_addMultiple : Cond.static yX7_addMultiple ∈ gw := gw_at 424 (by decide +kernel) rfl
theorem cd_X7_addMultiple : Cond.code yX7_addMultiple cX7_addMultiple 4 none ∈ gw := gw_at 425 (by decide +kernel) rfl
theorem lkX7_192 : Cond.methodLink RX7 192 yX2_multiply ∈ gw := gw_at 426 (by decide +kernel) rfl
theorem lkX7_200 : Cond.methodLink RX7 200 yX2_add ∈ gw := gw_at 427 (by decide +kernel) rfl
theorem lkX3_80 : Cond.methodLink RX3 80 yX4_multiply ∈ gw := gw_at 428 (by decide +kernel) rfl
theorem lkX3_86 : Cond.methodLink RX3 86 yX4_divide ∈ gw := gw_at 429 (by decide +kernel) rfl
theorem lkX3_64 : Cond.methodLink RX3 64 yX3_toPower ∈ gw := gw_at 430 (by decide +kernel) rfl
theorem im_X3_toPower : Cond.instanceMethod yX3_toPower ∈ gw := gw_at 432 (by decide +kernel) rfl
theorem cd_X3_toPower : Cond.code yX3_toPower cX3_toPower 4 (some .boolean) ∈ gw := gw_at 433 (by decide +kernel) rfl
theorem lkX3_68 : Cond.methodLink RX3 68 yX3_turn ∈ gw := gw_at 435 (by decide +kernel) rfl
theorem im_X3_turn : Cond.instanceMethod yX3_turn ∈ gw := gw_at 437 (by decide +kernel) rfl
theorem cd_X3_turn : Cond.code yX3_turn cX3_turn 3 (some .boolean) ∈ gw := gw_at 438 (by decide +kernel) rfl
theorem lkX3_54 : Cond.methodLink RX3 54 yX3_isDelta ∈ gw := gw_at 439 (by decide +kernel) rfl
theorem st_X3_isDelta : Cond.static yX3_isDelta ∈ gw := gw_at 440 (by decide +kernel) rfl
theorem cd_X3_isDelta : Cond.code yX3_isDelta cX3_isDelta 1 (some .boolean) ∈ gw := gw_at 441 (by decide +kernel) rfl
theorem lkX3_93 : Cond.methodLink RX3 93 yX4_turnInsideOut ∈ gw := gw_at 442 (by decide +kernel) rfl
theorem lkX3_96 : Cond.methodLink RX3 96 yX3_seriesOf ∈ gw := gw_at 443 (by decide +kernel) rfl
theorem im_X3_seriesOf : Cond.instanceMethod yX3_seriesOf ∈ gw := gw_at 445 (by decide +kernel) rfl
theorem cd_X3_seriesOf : Cond.code yX3_seriesOf cX3_seriesOf 2 (some (.array .int)) ∈ gw := gw_at 446 (by decide +kernel) rfl
theorem lkX3_100 : Cond.methodLink RX3 100 yX4_putInside ∈ gw := gw_at 447 (by decide +kernel) rfl
theorem lkX3_43 : Cond.methodLink RX3 43 yX3_toldG ∈ gw := gw_at 448 (by decide +kernel) rfl
theorem im_X3_toldG : Cond.instanceMethod yX3_toldG ∈ gw := gw_at 449 (by decide +kernel) rfl
theorem se_X3_toldG : Cond.selects RX3 yX3_toldG yX3_toldG ∈ gw := gw_at 450 (by decide +kernel) rfl
theorem cd_X3_toldG : Cond.code yX3_toldG cX3_toldG 1 (some (.array .int)) ∈ gw := gw_at 451 (by decide +kernel) rfl
theorem lkX3_51 : Cond.methodLink RX3 51 yX3_toldF ∈ gw := gw_at 452 (by decide +kernel) rfl
theorem im_X3_toldF : Cond.instanceMethod yX3_toldF ∈ gw := gw_at 453 (by decide +kernel) rfl
theorem se_X3_toldF : Cond.selects RX3 yX3_toldF yX3_toldF ∈ gw := gw_at 454 (by decide +kernel) rfl
theorem cd_X3_toldF : Cond.code yX3_toldF cX3_toldF 1 (some (.array .int)) ∈ gw := gw_at 455 (by decide +kernel) rfl
theorem lkX7_88 : Cond.methodLink RX7 88 yX3_toldG ∈ gw := gw_at 456 (by decide +kernel) rfl
theorem lkX7_92 : Cond.methodLink RX7 92 yX3_toldF ∈ gw := gw_at 457 (by decide +kernel) rfl
theorem lkX7_95 : Cond.methodLink RX7 95 yX5_become ∈ gw := gw_at 458 (by decide +kernel) rfl
theorem im_X5_become : Cond.instanceMethod yX5_become ∈ gw := gw_at 459 (by decide +kernel) rfl
theorem se_X5_become : Cond.selects RX5 yX5_become yX5_become ∈ gw := gw_at 460 (by decide +kernel) rfl
theorem cd_X5_become : Cond.code yX5_become cX5_become 3 (some .int) ∈ gw := gw_at 461 (by decide +kernel) rfl
theorem lkL_31 : Cond.methodLink RL 31 yX7_compose ∈ gw := gw_at 463 (by decide +kernel) rfl
theorem im_X7_compose : Cond.instanceMethod yX7_compose ∈ gw := gw_at 464 (by decide +kernel) rfl
theorem se_X7_compose : Cond.selects RX7 yX7_compose yX7_compose ∈ gw := gw_at 465 (by decide +kernel) rfl
theorem cd_X7_compose : Cond.code yX7_compose cX7_compose 6 (some .int) ∈ gw := gw_at 466 (by decide +kernel) rfl
theorem lkX7_105 : Cond.methodLink RX7 105 yX4_putInside ∈ gw := gw_at 467 (by decide +kernel) rfl
theorem lkX7_109 : Cond.methodLink RX7 109 yX4_multiply ∈ gw := gw_at 468 (by decide +kernel) rfl
theorem lkL_36 : Cond.methodLink RL 36 yX7_invert ∈ gw := gw_at 469 (by decide +kernel) rfl
theorem im_X7_invert : Cond.instanceMethod yX7_invert ∈ gw := gw_at 470 (by decide +kernel) rfl
theorem se_X7_invert : Cond.selects RX7 yX7_invert yX7_invert ∈ gw := gw_at 471 (by decide +kernel) rfl
theorem cd_X7_invert : Cond.code yX7_invert cX7_invert 4 (some .int) ∈ gw := gw_at 472 (by decide +kernel) rfl
theorem lkX7_115 : Cond.methodLink RX7 115 yX4_overSeries ∈ gw := gw_at 473 (by decide +kernel) rfl
theorem lkX7_119 : Cond.methodLink RX7 119 yX7_copy ∈ gw := gw_at 474 (by decide +kernel) rfl
theorem lkL_41 : Cond.methodLink RL 41 yX7_part ∈ gw := gw_at 475 (by decide +kernel) rfl
theorem im_X7_part : Cond.instanceMethod yX7_part ∈ gw := gw_at 476 (by decide +kernel) rfl
theorem se_X7_part : Cond.selects RX7 yX7_part yX7_part ∈ gw := gw_at 477 (by decide +kernel) rfl
theorem cd_X7_part : Cond.code yX7_part cX7_part 4 (some .int) ∈ gw := gw_at 478 (by decide +kernel) rfl
theorem lkX7_122 : Cond.methodLink RX7 122 yX7_setMonomial ∈ gw := gw_at 479 (by decide +kernel) rfl
theorem lkL_45 : Cond.methodLink RL 45 yX7_move ∈ gw := gw_at 480 (by decide +kernel) rfl
theorem im_X7_move : Cond.instanceMethod yX7_move ∈ gw := gw_at 481 (by decide +kernel) rfl
theorem se_X7_move : Cond.selects RX7 yX7_move yX7_move ∈ gw := gw_at 482 (by decide +kernel) rfl
theorem cd_X7_move : Cond.code yX7_move cX7_move 4 (some .int) ∈ gw := gw_at 483 (by decide +kernel) rfl
theorem lkX7_126 : Cond.methodLink RX7 126 yX2_holds ∈ gw := gw_at 484 (by decide +kernel) rfl
theorem lkX7_131 : Cond.methodLink RX7 131 yX2_subtract ∈ gw := gw_at 485 (by decide +kernel) rfl
theorem lkX7_135 : Cond.methodLink RX7 135 yX4_exponentialOf ∈ gw := gw_at 486 (by decide +kernel) rfl
theorem im_X4_exponentialOf : Cond.instanceMethod yX4_exponentialOf ∈ gw := gw_at 487 (by decide +kernel) rfl
theorem se_X4_exponentialOf : Cond.selects RX4 yX4_exponentialOf yX4_exponentialOf ∈ gw := gw_at 488 (by decide +kernel) rfl
theorem cd_X4_exponentialOf : Cond.code yX4_exponentialOf cX4_exponentialOf 5 none ∈ gw := gw_at 489 (by decide +kernel) rfl
theorem lkL_49 : Cond.methodLink RL 49 yX7_stretch ∈ gw := gw_at 490 (by decide +kernel) rfl
theorem im_X7_stretch : Cond.instanceMethod yX7_stretch ∈ gw := gw_at 491 (by decide +kernel) rfl
theorem se_X7_stretch : Cond.selects RX7 yX7_stretch yX7_stretch ∈ gw := gw_at 492 (by decide +kernel) rfl
theorem cd_X7_stretch : Cond.code yX7_stretch cX7_stretch 4 (some .int) ∈ gw := gw_at 493 (by decide +kernel) rfl
theorem lkX7_139 : Cond.methodLink RX7 139 yX2_inverse ∈ gw := gw_at 494 (by decide +kernel) rfl
theorem lkL_53 : Cond.methodLink RL 53 yX7_series ∈ gw := gw_at 495 (by decide +kernel) rfl
theorem im_X7_series : Cond.instanceMethod yX7_series ∈ gw := gw_at 496 (by decide +kernel) rfl
theorem se_X7_series : Cond.selects RX7 yX7_series yX7_series ∈ gw := gw_at 497 (by decide +kernel) rfl
theorem cd_X7_series : Cond.code yX7_series cX7_series 4 (some .int) ∈ gw := gw_at 498 (by decide +kernel) rfl
theorem lkX7_143 : Cond.methodLink RX7 143 yX7_isPower ∈ gw := gw_at 499 (by decide +kernel) rfl
theorem st_X7_isPower : Cond.static yX7_isPower ∈ gw := gw_at 500 (by decide +kernel) rfl
theorem cd_X7_isPower : Cond.code yX7_isPower cX7_isPower 1 (some .boolean) ∈ gw := gw_at 501 (by decide +kernel) rfl
theorem lkX7_146 : Cond.methodLink RX7 146 yX5_chosen ∈ gw := gw_at 502 (by decide +kernel) rfl
theorem im_X5_chosen : Cond.instanceMethod yX5_chosen ∈ gw := gw_at 503 (by decide +kernel) rfl
theorem se_X5_chosen : Cond.selects RX5 yX5_chosen yX5_chosen ∈ gw := gw_at 504 (by decide +kernel) rfl
theorem cd_X5_chosen : Cond.code yX5_chosen cX5_chosen 2 (some (.array .int)) ∈ gw := gw_at 505 (by decide +kernel) rfl
theorem lkL_57 : Cond.methodLink RL 57 yX7_polynomial ∈ gw := gw_at 506 (by decide +kernel) rfl
theorem im_X7_polynomial : Cond.instanceMethod yX7_polynomial ∈ gw := gw_at 507 (by decide +kernel) rfl
theorem se_X7_polynomial : Cond.selects RX7 yX7_polynomial yX7_polynomial ∈ gw := gw_at 508 (by decide +kernel) rfl
theorem cd_X7_polynomial : Cond.code yX7_polynomial cX7_polynomial 4 (some .int) ∈ gw := gw_at 509 (by decide +kernel) rfl
theorem lkL_61 : Cond.methodLink RL 61 yX7_value ∈ gw := gw_at 510 (by decide +kernel) rfl
theorem im_X7_value : Cond.instanceMethod yX7_value ∈ gw := gw_at 511 (by decide +kernel) rfl
theorem se_X7_value : Cond.selects RX7 yX7_value yX7_value ∈ gw := gw_at 512 (by decide +kernel) rfl
theorem cd_X7_value : Cond.code yX7_value cX7_value 4 (some .int) ∈ gw := gw_at 513 (by decide +kernel) rfl
theorem lkX7_154 : Cond.methodLink RX7 154 yX7_valueAt ∈ gw := gw_at 514 (by decide +kernel) rfl
theorem st_X7_valueAt : Cond.static yX7_valueAt ∈ gw := gw_at 515 (by decide +kernel) rfl
theorem cd_X7_valueAt : Cond.code yX7_valueAt cX7_valueAt 4 (some .int) ∈ gw := gw_at 516 (by decide +kernel) rfl
theorem lkL_65 : Cond.methodLink RL 65 yX7_connect ∈ gw := gw_at 517 (by decide +kernel) rfl
theorem im_X7_connect : Cond.instanceMethod yX7_connect ∈ gw := gw_at 518 (by decide +kernel) rfl
theorem se_X7_connect : Cond.selects RX7 yX7_connect yX7_connect ∈ gw := gw_at 519 (by decide +kernel) rfl
theorem cd_X7_connect : Cond.code yX7_connect cX7_connect 5 (some .int) ∈ gw := gw_at 520 (by decide +kernel) rfl
theorem lkX7_158 : Cond.methodLink RX7 158 yX5_tell ∈ gw := gw_at 521 (by decide +kernel) rfl
theorem im_X5_tell : Cond.instanceMethod yX5_tell ∈ gw := gw_at 522 (by decide +kernel) rfl
theorem se_X5_tell : Cond.selects RX5 yX5_tell yX5_tell ∈ gw := gw_at 523 (by decide +kernel) rfl
theorem cd_X5_tell : Cond.code yX5_tell cX5_tell 5 none ∈ gw := gw_at 524 (by decide +kernel) rfl
theorem lkX5_66 : Cond.methodLink RX5 66 yX2_inverse ∈ gw := gw_at 525 (by decide +kernel) rfl
theorem lkX5_72 : Cond.methodLink RX5 72 yX2_multiply ∈ gw := gw_at 526 (by decide +kernel) rfl
theorem lkX5_76 : Cond.methodLink RX5 76 yX2_subtract ∈ gw := gw_at 527 (by decide +kernel) rfl
theorem lkL_70 : Cond.methodLink RL 70 yX7_differ ∈ gw := gw_at 529 (by decide +kernel) rfl
theorem im_X7_differ : Cond.instanceMethod yX7_differ ∈ gw := gw_at 530 (by decide +kernel) rfl
theorem se_X7_differ : Cond.selects RX7 yX7_differ yX7_differ ∈ gw := gw_at 531 (by decide +kernel) rfl
theorem cd_X7_differ : Cond.code yX7_differ cX7_differ 4 (some .int) ∈ gw := gw_at 532 (by decide +kernel) rfl
theorem lkX7_161 : Cond.methodLink RX7 161 yX7_areAlike ∈ gw := gw_at 533 (by decide +kernel) rfl
theorem st_X7_areAlike : Cond.static yX7_areAlike ∈ gw := gw_at 534 (by decide +kernel) rfl
theorem cd_X7_areAlike : Cond.code yX7_areAlike cX7_areAlike 3 (some .boolean) ∈ gw := gw_at 535 (by decide +kernel) rfl
theorem lkL_74 : Cond.methodLink RL 74 yX7_take ∈ gw := gw_at 536 (by decide +kernel) rfl
theorem im_X7_take : Cond.instanceMethod yX7_take ∈ gw := gw_at 537 (by decide +kernel) rfl
theorem se_X7_take : Cond.selects RX7 yX7_take yX7_take ∈ gw := gw_at 538 (by decide +kernel) rfl
theorem cd_X7_take : Cond.code yX7_take cX7_take 3 (some .int) ∈ gw := gw_at 539 (by decide +kernel) rfl
theorem lkX7_165 : Cond.methodLink RX7 165 yX0_remember ∈ gw := gw_at 540 (by decide +kernel) rfl
theorem im_X0_remember : Cond.instanceMethod yX0_remember ∈ gw := gw_at 541 (by decide +kernel) rfl
theorem se_X0_remember : Cond.selects RX0 yX0_remember yX0_remember ∈ gw := gw_at 542 (by decide +kernel) rfl
theorem cd_X0_remember : Cond.code yX0_remember cX0_remember 1 none ∈ gw := gw_at 543 (by decide +kernel) rfl
theorem lkX0_31 : Cond.methodLink RX0 31 yJ9_min_7cf53 ∈ gw := gw_at 545 (by decide +kernel) rfl
theorem st_J9_min_7cf53 : Cond.static yJ9_min_7cf53 ∈ gw := gw_at 546 (by decide +kernel) rfl
theorem cd_J9_min_7cf53 : Cond.code yJ9_min_7cf53 cJ9_min_7cf53 2 (some .int) ∈ gw := gw_at 547 (by decide +kernel) rfl
theorem lkL_78 : Cond.methodLink RL 78 yX7_put ∈ gw := gw_at 548 (by decide +kernel) rfl
theorem im_X7_put : Cond.instanceMethod yX7_put ∈ gw := gw_at 549 (by decide +kernel) rfl
theorem se_X7_put : Cond.selects RX7 yX7_put yX7_put ∈ gw := gw_at 550 (by decide +kernel) rfl
theorem cd_X7_put : Cond.code yX7_put cX7_put 4 (some .int) ∈ gw := gw_at 551 (by decide +kernel) rfl
theorem lkL_82 : Cond.methodLink RL 82 yX7_plus ∈ gw := gw_at 552 (by decide +kernel) rfl
theorem im_X7_plus : Cond.instanceMethod yX7_plus ∈ gw := gw_at 553 (by decide +kernel) rfl
theorem se_X7_plus : Cond.selects RX7 yX7_plus yX7_plus ∈ gw := gw_at 554 (by decide +kernel) rfl
theorem cd_X7_plus : Cond.code yX7_plus cX7_plus 4 (some .int) ∈ gw := gw_at 555 (by decide +kernel) rfl
theorem lkX7_171 : Cond.methodLink RX7 171 yX7_addMultiple ∈ gw := gw_at 556 (by decide +kernel) rfl
theorem lkL_86 : Cond.methodLink RL 86 yX7_act ∈ gw := gw_at 557 (by decide +kernel) rfl
theorem im_X7_act : Cond.instanceMethod yX7_act ∈ gw := gw_at 558 (by decide +kernel) rfl
theorem se_X7_act : Cond.selects RX7 yX7_act yX7_act ∈ gw := gw_at 559 (by decide +kernel) rfl
theorem cd_X7_act : Cond.code yX7_act cX7_act 3 (some .int) ∈ gw := gw_at 560 (by decide +kernel) rfl
theorem lkX7_175 : Cond.methodLink RX7 175 yX4_takeBy ∈ gw := gw_at 561 (by decide +kernel) rfl
theorem im_X4_takeBy : Cond.instanceMethod yX4_takeBy ∈ gw := gw_at 562 (by decide +kernel) rfl
theorem se_X4_takeBy : Cond.selects RX4 yX4_takeBy yX4_takeBy ∈ gw := gw_at 563 (by decide +kernel) rfl
theorem cd_X4_takeBy : Cond.code yX4_takeBy cX4_takeBy 7 none ∈ gw := gw_at 564 (by decide +kernel) rfl
theorem lkL_90 : Cond.methodLink RL 90 yX7_raise ∈ gw := gw_at 565 (by decide +kernel) rfl
theorem im_X7_raise : Cond.instanceMethod yX7_raise ∈ gw := gw_at 566 (by decide +kernel) rfl
theorem se_X7_raise : Cond.selects RX7 yX7_raise yX7_raise ∈ gw := gw_at 567 (by decide +kernel) rfl
theorem cd_X7_raise : Cond.code yX7_raise cX7_raise 2 (some .int) ∈ gw := gw_at 568 (by decide +kernel) rfl
theorem lkX7_178 : Cond.methodLink RX7 178 yX0_hasTopPower ∈ gw := gw_at 569 (by decide +kernel) rfl
theorem im_X0_hasTopPower : Cond.instanceMethod yX0_hasTopPower ∈ gw := gw_at 570 (by decide +kernel) rfl
theorem se_X0_hasTopPower : Cond.selects RX0 yX0_hasTopPower yX0_hasTopPower ∈ gw := gw_at 571 (by decide +kernel) rfl
theorem cd_X0_hasTopPower : Cond.code yX0_hasTopPower cX0_hasTopPower 1 (some .boolean) ∈ gw := gw_at 572 (by decide +kernel) rfl
theorem lkX7_182 : Cond.methodLink RX7 182 yX4_untakeBy ∈ gw := gw_at 573 (by decide +kernel) rfl
theorem im_X4_untakeBy : Cond.instanceMethod yX4_untakeBy ∈ gw := gw_at 574 (by decide +kernel) rfl
theorem se_X4_untakeBy : Cond.selects RX4 yX4_untakeBy yX4_untakeBy ∈ gw := gw_at 575 (by decide +kernel) rfl
theorem cd_X4_untakeBy : Cond.code yX4_untakeBy cX4_untakeBy 4 none ∈ gw := gw_at 576 (by decide +kernel) rfl
theorem lkX4_73 : Cond.methodLink RX4 73 yX4_takeBy ∈ gw := gw_at 577 (by decide +kernel) rfl
theorem st_X7_moveUp : Cond.static yX7_moveUp ∈ gw := gw_at 579 (by decide +kernel) rfl
theorem cd_X7_moveUp : Cond.code yX7_moveUp cX7_moveUp 2 none ∈ gw := gw_at 580 (by decide +kernel) rfl
theorem lkL_94 : Cond.methodLink RL 94 yX7_shift ∈ gw := gw_at 581 (by decide +kernel) rfl
theorem im_X7_shift : Cond.instanceMethod yX7_shift ∈ gw := gw_at 582 (by decide +kernel) rfl
theorem se_X7_shift : Cond.selects RX7 yX7_shift yX7_shift ∈ gw := gw_at 583 (by decide +kernel) rfl
theorem cd_X7_shift : Cond.code yX7_shift cX7_shift 2 (some .int) ∈ gw := gw_at 584 (by decide +kernel) rfl
theorem lkL_98 : Cond.methodLink RL 98 yX7_times ∈ gw := gw_at 585 (by decide +kernel) rfl
theorem im_X7_times : Cond.instanceMethod yX7_times ∈ gw := gw_at 586 (by decide +kernel) rfl
theorem se_X7_times : Cond.selects RX7 yX7_times yX7_times ∈ gw := gw_at 587 (by decide +kernel) rfl
theorem cd_X7_times : Cond.code yX7_times cX7_times 1 (some .int) ∈ gw := gw_at 588 (by decide +kernel) rfl
theorem lkX7_185 : Cond.methodLink RX7 185 yX7_moveUp ∈ gw := gw_at 589 (by decide +kernel) rfl
theorem lkL_102 : Cond.methodLink RL 102 yX7_swap ∈ gw := gw_at 590 (by decide +kernel) rfl
theorem im_X7_swap : Cond.instanceMethod yX7_swap ∈ gw := gw_at 591 (by decide +kernel) rfl
theorem se_X7_swap : Cond.selects RX7 yX7_swap yX7_swap ∈ gw := gw_at 592 (by decide +kernel) rfl
theorem cd_X7_swap : Cond.code yX7_swap cX7_swap 3 (some .int) ∈ gw := gw_at 593 (by decide +kernel) rfl
theorem lkX7_189 : Cond.methodLink RX7 189 yX5_gather ∈ gw := gw_at 594 (by decide +kernel) rfl
theorem im_X5_gather : Cond.instanceMethod yX5_gather ∈ gw := gw_at 595 (by decide +kernel) rfl
theorem se_X5_gather : Cond.selects RX5 yX5_gather yX5_gather ∈ gw := gw_at 596 (by decide +kernel) rfl
theorem cd_X5_gather : Cond.code yX5_gather cX5_gather 4 none ∈ gw := gw_at 597 (by decide +kernel) rfl
theorem lkL_106 : Cond.methodLink RL 106 yX7_climb ∈ gw := gw_at 598 (by decide +kernel) rfl
theorem im_X7_climb : Cond.instanceMethod yX7_climb ∈ gw := gw_at 599 (by decide +kernel) rfl
theorem se_X7_climb : Cond.selects RX7 yX7_climb yX7_climb ∈ gw := gw_at 600 (by decide +kernel) rfl
theorem cd_X7_climb : Cond.code yX7_climb cX7_climb 2 (some .int) ∈ gw := gw_at 601 (by decide +kernel) rfl
theorem lkL_110 : Cond.methodLink RL 110 yX7_weigh ∈ gw := gw_at 602 (by decide +kernel) rfl
theorem im_X7_weigh : Cond.instanceMethod yX7_weigh ∈ gw := gw_at 603 (by decide +kernel) rfl
theorem se_X7_weigh : Cond.selects RX7 yX7_weigh yX7_weigh ∈ gw := gw_at 604 (by decide +kernel) rfl
theorem cd_X7_weigh : Cond.code yX7_weigh cX7_weigh 3 (some .int) ∈ gw := gw_at 605 (by decide +kernel) rfl
theorem lkL_114 : Cond.methodLink RL 114 yX7_undo ∈ gw := gw_at 606 (by decide +kernel) rfl
theorem im_X7_undo : Cond.instanceMethod yX7_undo ∈ gw := gw_at 607 (by decide +kernel) rfl
theorem se_X7_undo : Cond.selects RX7 yX7_undo yX7_undo ∈ gw := gw_at 608 (by decide +kernel) rfl
theorem cd_X7_undo : Cond.code yX7_undo cX7_undo 1 (some .int) ∈ gw := gw_at 609 (by decide +kernel) rfl
theorem lkX7_194 : Cond.methodLink RX7 194 yX0_restore ∈ gw := gw_at 610 (by decide +kernel) rfl
theorem im_X0_restore : Cond.instanceMethod yX0_restore ∈ gw := gw_at 611 (by decide +kernel) rfl
theorem se_X0_restore : Cond.selects RX0 yX0_restore yX0_restore ∈ gw := gw_at 612 (by decide +kernel) rfl
theorem cd_X0_restore : Cond.code yX0_restore cX0_restore 1 (some .boolean) ∈ gw := gw_at 613 (by decide +kernel) rfl
theorem lkL_118 : Cond.methodLink RL 118 yX7_hand ∈ gw := gw_at 614 (by decide +kernel) rfl
theorem im_X7_hand : Cond.instanceMethod yX7_hand ∈ gw := gw_at 615 (by decide +kernel) rfl
theorem se_X7_hand : Cond.selects RX7 yX7_hand yX7_hand ∈ gw := gw_at 616 (by decide +kernel) rfl
theorem cd_X7_hand : Cond.code yX7_hand cX7_hand 2 (some .int) ∈ gw := gw_at 617 (by decide +kernel) rfl
theorem lkL_122 : Cond.methodLink RL 122 yX7_at ∈ gw := gw_at 618 (by decide +kernel) rfl
theorem im_X7_at : Cond.instanceMethod yX7_at ∈ gw := gw_at 619 (by decide +kernel) rfl
theorem se_X7_at : Cond.selects RX7 yX7_at yX7_at ∈ gw := gw_at 620 (by decide +kernel) rfl
theorem cd_X7_at : Cond.code yX7_at cX7_at 2 (some .int) ∈ gw := gw_at 621 (by decide +kernel) rfl
theorem lkL_126 : Cond.methodLink RL 126 yX7_expand ∈ gw := gw_at 622 (by decide +kernel) rfl
theorem im_X7_expand : Cond.instanceMethod yX7_expand ∈ gw := gw_at 623 (by decide +kernel) rfl
theorem se_X7_expand : Cond.selects RX7 yX7_expand yX7_expand ∈ gw := gw_at 624 (by decide +kernel) rfl
theorem cd_X7_expand : Cond.code yX7_expand cX7_expand 3 (some .int) ∈ gw := gw_at 625 (by decide +kernel) rfl
theorem lkL_130 : Cond.methodLink RL 130 yX7_sum ∈ gw := gw_at 626 (by decide +kernel) rfl
theorem im_X7_sum : Cond.instanceMethod yX7_sum ∈ gw := gw_at 627 (by decide +kernel) rfl
theorem se_X7_sum : Cond.selects RX7 yX7_sum yX7_sum ∈ gw := gw_at 628 (by decide +kernel) rfl
theorem cd_X7_sum : Cond.code yX7_sum cX7_sum 4 (some .int) ∈ gw := gw_at 629 (by decide +kernel) rfl
theorem lkL_134 : Cond.methodLink RL 134 yX7_keep ∈ gw := gw_at 630 (by decide +kernel) rfl
theorem im_X7_keep : Cond.instanceMethod yX7_keep ∈ gw := gw_at 631 (by decide +kernel) rfl
theorem se_X7_keep : Cond.selects RX7 yX7_keep yX7_keep ∈ gw := gw_at 632 (by decide +kernel) rfl
theorem cd_X7_keep : Cond.code yX7_keep cX7_keep 3 (some .int) ∈ gw := gw_at 633 (by decide +kernel) rfl
theorem lkX7_203 : Cond.methodLink RX7 203 yX7_isKeptPlace ∈ gw := gw_at 634 (by decide +kernel) rfl
theorem st_X7_isKeptPlace : Cond.static yX7_isKeptPlace ∈ gw := gw_at 635 (by decide +kernel) rfl
theorem cd_X7_isKeptPlace : Cond.code yX7_isKeptPlace cX7_isKeptPlace 1 (some .boolean) ∈ gw := gw_at 636 (by decide +kernel) rfl
theorem lkX7_215 : Cond.methodLink RX7 215 yX0_size ∈ gw := gw_at 637 (by decide +kernel) rfl
theorem im_X0_size : Cond.instanceMethod yX0_size ∈ gw := gw_at 638 (by decide +kernel) rfl
theorem se_X0_size : Cond.selects RX0 yX0_size yX0_size ∈ gw := gw_at 639 (by decide +kernel) rfl
theorem cd_X0_size : Cond.code yX0_size cX0_size 3 (some .int) ∈ gw := gw_at 640 (by decide +kernel) rfl
theorem lkL_138 : Cond.methodLink RL 138 yX7_back ∈ gw := gw_at 641 (by decide +kernel) rfl
theorem im_X7_back : Cond.instanceMethod yX7_back ∈ gw := gw_at 642 (by decide +kernel) rfl
theorem se_X7_back : Cond.selects RX7 yX7_back yX7_back ∈ gw := gw_at 643 (by decide +kernel) rfl
theorem cd_X7_back : Cond.code yX7_back cX7_back 3 (some .int) ∈ gw := gw_at 644 (by decide +kernel) rfl
theorem lkX7_218 : Cond.methodLink RX7 218 yX0_forget ∈ gw := gw_at 645 (by decide +kernel) rfl
theorem im_X0_forget : Cond.instanceMethod yX0_forget ∈ gw := gw_at 646 (by decide +kernel) rfl
theorem se_X0_forget : Cond.selects RX0 yX0_forget yX0_forget ∈ gw := gw_at 647 (by decide +kernel) rfl
theorem cd_X0_forget : Cond.code yX0_forget cX0_forget 1 none ∈ gw := gw_at 648 (by decide +kernel) rfl
theorem lkL_142 : Cond.methodLink RL 142 yX7_count ∈ gw := gw_at 649 (by decide +kernel) rfl
theorem im_X7_count : Cond.instanceMethod yX7_count ∈ gw := gw_at 650 (by decide +kernel) rfl
theorem se_X7_count : Cond.selects RX7 yX7_count yX7_count ∈ gw := gw_at 651 (by decide +kernel) rfl
theorem cd_X7_count : Cond.code yX7_count cX7_count 2 (some .int) ∈ gw := gw_at 652 (by decide +kernel) rfl
theorem lkX7_221 : Cond.methodLink RX7 221 yX0_degree ∈ gw := gw_at 653 (by decide +kernel) rfl
theorem im_X0_degree : Cond.instanceMethod yX0_degree ∈ gw := gw_at 654 (by decide +kernel) rfl
theorem se_X0_degree : Cond.selects RX0 yX0_degree yX0_degree ∈ gw := gw_at 655 (by decide +kernel) rfl
theorem cd_X0_degree : Cond.code yX0_degree cX0_degree 2 (some .int) ∈ gw := gw_at 656 (by decide +kernel) rfl
theorem lkX7_224 : Cond.methodLink RX7 224 yX5_secondPower ∈ gw := gw_at 657 (by decide +kernel) rfl
theorem im_X5_secondPower : Cond.instanceMethod yX5_secondPower ∈ gw := gw_at 658 (by decide +kernel) rfl
theorem se_X5_secondPower : Cond.selects RX5 yX5_secondPower yX5_secondPower ∈ gw := gw_at 659 (by decide +kernel) rfl
theorem cd_X5_secondPower : Cond.code yX5_secondPower cX5_secondPower 2 (some .int) ∈ gw := gw_at 660 (by decide +kernel) rfl
theorem lcL_10 : Cond.classLink RL 10 RX8 ∈ gw := gw_at 661 (by decide +kernel) rfl
theorem ib_X8 : Cond.instantiable RX8 37 ∈ gw := gw_at 662 (by decide +kernel) rfl
theorem lkL_12 : Cond.methodLink RL 12 yX8_init ∈ gw := gw_at 663 (by decide +kernel) rfl
theorem im_X8_init : Cond.instanceMethod yX8_init ∈ gw := gw_at 664 (by decide +kernel) rfl
theorem cd_X8_init : Cond.code yX8_init cX8_init 2 none ∈ gw := gw_at 665 (by decide +kernel) rfl
theorem lkX8_1 : Cond.methodLink RX8 1 objectInit ∈ gw := gw_at 666 (by decide +kernel) rfl
theorem lfX8_7 : Cond.fieldLink RX8 7 "ShadowRowDeskModel" "gs" "[I" ∈ gw := gw_at 667 (by decide +kernel) rfl
theorem lfX8_13 : Cond.fieldLink RX8 13 "ShadowRowDeskModel" "fs" "[I" ∈ gw := gw_at 668 (by decide +kernel) rfl
theorem lfX8_16 : Cond.fieldLink RX8 16 "ShadowRowDeskModel" "p" "[I" ∈ gw := gw_at 669 (by decide +kernel) rfl
theorem lfX8_19 : Cond.fieldLink RX8 19 "ShadowRowDeskModel" "past" "[I" ∈ gw := gw_at 670 (by decide +kernel) rfl
theorem lfX8_270 : Cond.fieldLink RX8 270 "ShadowRowDeskModel" "undoes" "I" ∈ gw := gw_at 671 (by decide +kernel) rfl
theorem lfX8_22 : Cond.fieldLink RX8 22 "ShadowRowDeskModel" "kept" "[I" ∈ gw := gw_at 672 (by decide +kernel) rfl
theorem lfX8_25 : Cond.fieldLink RX8 25 "ShadowRowDeskModel" "isKept" "[Z" ∈ gw := gw_at 673 (by decide +kernel) rfl
theorem lfX8_29 : Cond.fieldLink RX8 29 "ShadowRowDeskModel" "text" "[I" ∈ gw := gw_at 674 (by decide +kernel) rfl
theorem lfX8_144 : Cond.fieldLink RX8 144 "ShadowRowDeskModel" "letters" "I" ∈ gw := gw_at 675 (by decide +kernel) rfl
theorem lfX8_32 : Cond.fieldLink RX8 32 "ShadowRowDeskModel" "made" "[I" ∈ gw := gw_at 676 (by decide +kernel) rfl
theorem lfX8_35 : Cond.fieldLink RX8 35 "ShadowRowDeskModel" "sofar" "[I" ∈ gw := gw_at 677 (by decide +kernel) rfl
theorem lfX8_38 : Cond.fieldLink RX8 38 "ShadowRowDeskModel" "turned" "[I" ∈ gw := gw_at 678 (by decide +kernel) rfl
theorem lfX8_41 : Cond.fieldLink RX8 41 "ShadowRowDeskModel" "tried" "[I" ∈ gw := gw_at 679 (by decide +kernel) rfl
theorem lfX8_44 : Cond.fieldLink RX8 44 "ShadowRowDeskModel" "power" "[I" ∈ gw := gw_at 680 (by decide +kernel) rfl
theorem lfX8_47 : Cond.fieldLink RX8 47 "ShadowRowDeskModel" "summed" "[I" ∈ gw := gw_at 681 (by decide +kernel) rfl
theorem lfX8_140 : Cond.fieldLink RX8 140 "ShadowRowDeskModel" "here" "I" ∈ gw := gw_at 682 (by decide +kernel) rfl
theorem lfX8_151 : Cond.fieldLink RX8 151 "ShadowRowDeskModel" "open" "I" ∈ gw := gw_at 683 (by decide +kernel) rfl
theorem lfX8_154 : Cond.fieldLink RX8 154 "ShadowRowDeskModel" "isWrong" "Z" ∈ gw := gw_at 684 (by decide +kernel) rfl
theorem lfX8_50 : Cond.fieldLink RX8 50 "ShadowRowDeskModel" "thing" "[I" ∈ gw := gw_at 685 (by decide +kernel) rfl
theorem lfX8_53 : Cond.fieldLink RX8 53 "ShadowRowDeskModel" "sums" "[I" ∈ gw := gw_at 686 (by decide +kernel) rfl
theorem lfX8_56 : Cond.fieldLink RX8 56 "ShadowRowDeskModel" "products" "[I" ∈ gw := gw_at 687 (by decide +kernel) rfl
theorem lfX8_59 : Cond.fieldLink RX8 59 "ShadowRowDeskModel" "work" "[I" ∈ gw := gw_at 688 (by decide +kernel) rfl
theorem lfX8_62 : Cond.fieldLink RX8 62 "ShadowRowDeskModel" "sumBy" "[I" ∈ gw := gw_at 689 (by decide +kernel) rfl
theorem lfX8_65 : Cond.fieldLink RX8 65 "ShadowRowDeskModel" "productBy" "[I" ∈ gw := gw_at 690 (by decide +kernel) rfl
theorem lfX8_68 : Cond.fieldLink RX8 68 "ShadowRowDeskModel" "letterOf" "[I" ∈ gw := gw_at 691 (by decide +kernel) rfl
theorem lfX8_71 : Cond.fieldLink RX8 71 "ShadowRowDeskModel" "readG" "[I" ∈ gw := gw_at 692 (by decide +kernel) rfl
theorem lfX8_74 : Cond.fieldLink RX8 74 "ShadowRowDeskModel" "readF" "[I" ∈ gw := gw_at 693 (by decide +kernel) rfl
theorem lfX8_199 : Cond.fieldLink RX8 199 "ShadowRowDeskModel" "letterAhead" "I" ∈ gw := gw_at 694 (by decide +kernel) rfl
theorem lfX8_77 : Cond.fieldLink RX8 77 "ShadowRowDeskModel" "newG" "[I" ∈ gw := gw_at 695 (by decide +kernel) rfl
theorem lfX8_80 : Cond.fieldLink RX8 80 "ShadowRowDeskModel" "newF" "[I" ∈ gw := gw_at 696 (by decide +kernel) rfl
theorem lfX8_83 : Cond.fieldLink RX8 83 "ShadowRowDeskModel" "one" "[I" ∈ gw := gw_at 697 (by decide +kernel) rfl
theorem lfX8_86 : Cond.fieldLink RX8 86 "ShadowRowDeskModel" "pols" "[I" ∈ gw := gw_at 698 (by decide +kernel) rfl
theorem lfX8_89 : Cond.fieldLink RX8 89 "ShadowRowDeskModel" "others" "[I" ∈ gw := gw_at 699 (by decide +kernel) rfl
theorem lfX8_92 : Cond.fieldLink RX8 92 "ShadowRowDeskModel" "due" "[I" ∈ gw := gw_at 700 (by decide +kernel) rfl
theorem lfX8_95 : Cond.fieldLink RX8 95 "ShadowRowDeskModel" "q" "[I" ∈ gw := gw_at 701 (by decide +kernel) rfl
theorem lfX8_98 : Cond.fieldLink RX8 98 "ShadowRowDeskModel" "left" "[I" ∈ gw := gw_at 702 (by decide +kernel) rfl
theorem lfX8_101 : Cond.fieldLink RX8 101 "ShadowRowDeskModel" "parts" "[I" ∈ gw := gw_at 703 (by decide +kernel) rfl
theorem ac_boolean : Cond.arrayClass .boolean ∈ gw := gw_at 779 (by decide +kernel) rfl
theorem lkL_17 : Cond.methodLink RL 17 yX8_write ∈ gw := gw_at 780 (by decide +kernel) rfl
theorem im_X8_write : Cond.instanceMethod yX8_write ∈ gw := gw_at 781 (by decide +kernel) rfl
theorem se_X8_write : Cond.selects RX8 yX8_write yX8_write ∈ gw := gw_at 782 (by decide +kernel) rfl
theorem cd_X8_write : Cond.code yX8_write cX8_write 2 (some .int) ∈ gw := gw_at 783 (by decide +kernel) rfl
theorem lkX8_104 : Cond.methodLink RX8 104 yX8_in ∈ gw := gw_at 784 (by decide +kernel) rfl
theorem st_X8_in : Cond.static yX8_in ∈ gw := gw_at 785 (by decide +kernel) rfl
theorem cd_X8_in : Cond.code yX8_in cX8_in 3 (some .boolean) ∈ gw := gw_at 786 (by decide +kernel) rfl
theorem lkL_22 : Cond.methodLink RL 22 yX8_erase ∈ gw := gw_at 787 (by decide +kernel) rfl
theorem im_X8_erase : Cond.instanceMethod yX8_erase ∈ gw := gw_at 788 (by decide +kernel) rfl
theorem se_X8_erase : Cond.selects RX8 yX8_erase yX8_erase ∈ gw := gw_at 789 (by decide +kernel) rfl
theorem cd_X8_erase : Cond.code yX8_erase cX8_erase 2 (some .int) ∈ gw := gw_at 790 (by decide +kernel) rfl
theorem lkL_26 : Cond.methodLink RL 26 yX8_fault ∈ gw := gw_at 791 (by decide +kernel) rfl
theorem im_X8_fault : Cond.instanceMethod yX8_fault ∈ gw := gw_at 792 (by decide +kernel) rfl
theorem se_X8_fault : Cond.selects RX8 yX8_fault yX8_fault ∈ gw := gw_at 793 (by decide +kernel) rfl
theorem cd_X8_fault : Cond.code yX8_fault cX8_fault 1 (some .int) ∈ gw := gw_at 794 (by decide +kernel) rfl
theorem lkX8_230 : Cond.methodLink RX8 230 yX8_reads ∈ gw := gw_at 795 (by decide +kernel) rfl
theorem im_X8_reads : Cond.instanceMethod yX8_reads ∈ gw := gw_at 797 (by decide +kernel) rfl
theorem cd_X8_reads : Cond.code yX8_reads cX8_reads 1 (some .boolean) ∈ gw := gw_at 798 (by decide +kernel) rfl
theorem lkX8_227 : Cond.methodLink RX8 227 yX8_readsSum ∈ gw := gw_at 799 (by decide +kernel) rfl
theorem im_X8_readsSum : Cond.instanceMethod yX8_readsSum ∈ gw := gw_at 801 (by decide +kernel) rfl
theorem cd_X8_readsSum : Cond.code yX8_readsSum cX8_readsSum 4 (some .int) ∈ gw := gw_at 802 (by decide +kernel) rfl
theorem lkX8_205 : Cond.methodLink RX8 205 yX8_begins ∈ gw := gw_at 803 (by decide +kernel) rfl
theorem im_X8_begins : Cond.instanceMethod yX8_begins ∈ gw := gw_at 805 (by decide +kernel) rfl
theorem cd_X8_begins : Cond.code yX8_begins cX8_begins 2 none ∈ gw := gw_at 806 (by decide +kernel) rfl
theorem lkX8_215 : Cond.methodLink RX8 215 yX8_sign ∈ gw := gw_at 807 (by decide +kernel) rfl
theorem im_X8_sign : Cond.instanceMethod yX8_sign ∈ gw := gw_at 809 (by decide +kernel) rfl
theorem cd_X8_sign : Cond.code yX8_sign cX8_sign 1 (some .int) ∈ gw := gw_at 810 (by decide +kernel) rfl
theorem lkX8_164 : Cond.methodLink RX8 164 yX8_endsProduct ∈ gw := gw_at 811 (by decide +kernel) rfl
theorem im_X8_endsProduct : Cond.instanceMethod yX8_endsProduct ∈ gw := gw_at 813 (by decide +kernel) rfl
theorem cd_X8_endsProduct : Cond.code yX8_endsProduct cX8_endsProduct 5 none ∈ gw := gw_at 814 (by decide +kernel) rfl
theorem lkX8_161 : Cond.methodLink RX8 161 yX8_endsPower ∈ gw := gw_at 815 (by decide +kernel) rfl
theorem im_X8_endsPower : Cond.instanceMethod yX8_endsPower ∈ gw := gw_at 817 (by decide +kernel) rfl
theorem cd_X8_endsPower : Cond.code yX8_endsPower cX8_endsPower 3 none ∈ gw := gw_at 818 (by decide +kernel) rfl
theorem lkX8_112 : Cond.methodLink RX8 112 yX8_bring ∈ gw := gw_at 819 (by decide +kernel) rfl
theorem st_X8_bring : Cond.static yX8_bring ∈ gw := gw_at 820 (by decide +kernel) rfl
theorem cd_X8_bring : Cond.code yX8_bring cX8_bring 6 none ∈ gw := gw_at 821 (by decide +kernel) rfl
theorem lkX8_133 : Cond.methodLink RX8 133 yX8_multiplies ∈ gw := gw_at 822 (by decide +kernel) rfl
theorem im_X8_multiplies : Cond.instanceMethod yX8_multiplies ∈ gw := gw_at 824 (by decide +kernel) rfl
theorem cd_X8_multiplies : Cond.code yX8_multiplies cX8_multiplies 8 none ∈ gw := gw_at 825 (by decide +kernel) rfl
theorem lkX8_116 : Cond.methodLink RX8 116 yX8_clears ∈ gw := gw_at 826 (by decide +kernel) rfl
theorem im_X8_clears : Cond.instanceMethod yX8_clears ∈ gw := gw_at 828 (by decide +kernel) rfl
theorem cd_X8_clears : Cond.code yX8_clears cX8_clears 2 none ∈ gw := gw_at 829 (by decide +kernel) rfl
theorem lkX8_108 : Cond.methodLink RX8 108 yX8_product ∈ gw := gw_at 830 (by decide +kernel) rfl
theorem st_X8_product : Cond.static yX8_product ∈ gw := gw_at 831 (by decide +kernel) rfl
theorem cd_X8_product : Cond.code yX8_product cX8_product 2 (some .int) ∈ gw := gw_at 832 (by decide +kernel) rfl
theorem lkX8_119 : Cond.methodLink RX8 119 yX8_together ∈ gw := gw_at 833 (by decide +kernel) rfl
theorem st_X8_together : Cond.static yX8_together ∈ gw := gw_at 834 (by decide +kernel) rfl
theorem cd_X8_together : Cond.code yX8_together cX8_together 2 (some .int) ∈ gw := gw_at 835 (by decide +kernel) rfl
theorem lkX8_122 : Cond.methodLink RX8 122 yX8_toMade ∈ gw := gw_at 836 (by decide +kernel) rfl
theorem im_X8_toMade : Cond.instanceMethod yX8_toMade ∈ gw := gw_at 838 (by decide +kernel) rfl
theorem cd_X8_toMade : Cond.code yX8_toMade cX8_toMade 3 none ∈ gw := gw_at 839 (by decide +kernel) rfl
theorem lkX8_158 : Cond.methodLink RX8 158 yX8_divides ∈ gw := gw_at 840 (by decide +kernel) rfl
theorem im_X8_divides : Cond.instanceMethod yX8_divides ∈ gw := gw_at 842 (by decide +kernel) rfl
theorem cd_X8_divides : Cond.code yX8_divides cX8_divides 10 none ∈ gw := gw_at 843 (by decide +kernel) rfl
theorem lkX8_126 : Cond.methodLink RX8 126 yX8_over ∈ gw := gw_at 844 (by decide +kernel) rfl
theorem st_X8_over : Cond.static yX8_over ∈ gw := gw_at 845 (by decide +kernel) rfl
theorem cd_X8_over : Cond.code yX8_over cX8_over 4 (some .int) ∈ gw := gw_at 846 (by decide +kernel) rfl
theorem lkX8_130 : Cond.methodLink RX8 130 yX8_less ∈ gw := gw_at 847 (by decide +kernel) rfl
theorem st_X8_less : Cond.static yX8_less ∈ gw := gw_at 848 (by decide +kernel) rfl
theorem cd_X8_less : Cond.code yX8_less cX8_less 2 (some .int) ∈ gw := gw_at 849 (by decide +kernel) rfl
theorem lkX8_218 : Cond.methodLink RX8 218 yX8_readsThing ∈ gw := gw_at 850 (by decide +kernel) rfl
theorem im_X8_readsThing : Cond.instanceMethod yX8_readsThing ∈ gw := gw_at 852 (by decide +kernel) rfl
theorem cd_X8_readsThing : Cond.code yX8_readsThing cX8_readsThing 3 (some .int) ∈ gw := gw_at 853 (by decide +kernel) rfl
theorem lkX8_147 : Cond.methodLink RX8 147 yX8_isDigit ∈ gw := gw_at 854 (by decide +kernel) rfl
theorem st_X8_isDigit : Cond.static yX8_isDigit ∈ gw := gw_at 855 (by decide +kernel) rfl
theorem cd_X8_isDigit : Cond.code yX8_isDigit cX8_isDigit 1 (some .boolean) ∈ gw := gw_at 856 (by decide +kernel) rfl
theorem lkX8_185 : Cond.methodLink RX8 185 yX8_figures ∈ gw := gw_at 857 (by decide +kernel) rfl
theorem im_X8_figures : Cond.instanceMethod yX8_figures ∈ gw := gw_at 859 (by decide +kernel) rfl
theorem cd_X8_figures : Cond.code yX8_figures cX8_figures 2 (some .int) ∈ gw := gw_at 860 (by decide +kernel) rfl
theorem lkX8_189 : Cond.methodLink RX8 189 yX8_numberOf ∈ gw := gw_at 861 (by decide +kernel) rfl
theorem im_X8_numberOf : Cond.instanceMethod yX8_numberOf ∈ gw := gw_at 863 (by decide +kernel) rfl
theorem cd_X8_numberOf : Cond.code yX8_numberOf cX8_numberOf 4 (some .int) ∈ gw := gw_at 864 (by decide +kernel) rfl
theorem lkX8_192 : Cond.methodLink RX8 192 yX8_sets ∈ gw := gw_at 865 (by decide +kernel) rfl
theorem im_X8_sets : Cond.instanceMethod yX8_sets ∈ gw := gw_at 867 (by decide +kernel) rfl
theorem cd_X8_sets : Cond.code yX8_sets cX8_sets 4 none ∈ gw := gw_at 868 (by decide +kernel) rfl
theorem lkX8_196 : Cond.methodLink RX8 196 yX8_isLetter ∈ gw := gw_at 869 (by decide +kernel) rfl
theorem st_X8_isLetter : Cond.static yX8_isLetter ∈ gw := gw_at 870 (by decide +kernel) rfl
theorem cd_X8_isLetter : Cond.code yX8_isLetter cX8_isLetter 1 (some .boolean) ∈ gw := gw_at 871 (by decide +kernel) rfl
theorem lkX8_202 : Cond.methodLink RX8 202 yX8_readsBracket ∈ gw := gw_at 872 (by decide +kernel) rfl
theorem im_X8_readsBracket : Cond.instanceMethod yX8_readsBracket ∈ gw := gw_at 874 (by decide +kernel) rfl
theorem cd_X8_readsBracket : Cond.code yX8_readsBracket cX8_readsBracket 2 (some .int) ∈ gw := gw_at 875 (by decide +kernel) rfl
theorem lkX8_221 : Cond.methodLink RX8 221 yX8_readsTimes ∈ gw := gw_at 876 (by decide +kernel) rfl
theorem im_X8_readsTimes : Cond.instanceMethod yX8_readsTimes ∈ gw := gw_at 878 (by decide +kernel) rfl
theorem cd_X8_readsTimes : Cond.code yX8_readsTimes cX8_readsTimes 2 (some .int) ∈ gw := gw_at 879 (by decide +kernel) rfl
theorem lkX8_209 : Cond.methodLink RX8 209 yX8_raisesThing ∈ gw := gw_at 880 (by decide +kernel) rfl
theorem im_X8_raisesThing : Cond.instanceMethod yX8_raisesThing ∈ gw := gw_at 882 (by decide +kernel) rfl
theorem cd_X8_raisesThing : Cond.code yX8_raisesThing cX8_raisesThing 3 none ∈ gw := gw_at 883 (by decide +kernel) rfl
theorem lkX8_182 : Cond.methodLink RX8 182 yX8_sofarOne ∈ gw := gw_at 884 (by decide +kernel) rfl
theorem im_X8_sofarOne : Cond.instanceMethod yX8_sofarOne ∈ gw := gw_at 886 (by decide +kernel) rfl
theorem cd_X8_sofarOne : Cond.code yX8_sofarOne cX8_sofarOne 2 none ∈ gw := gw_at 887 (by decide +kernel) rfl
theorem lkX8_224 : Cond.methodLink RX8 224 yX8_readsOn ∈ gw := gw_at 888 (by decide +kernel) rfl
theorem im_X8_readsOn : Cond.instanceMethod yX8_readsOn ∈ gw := gw_at 890 (by decide +kernel) rfl
theorem cd_X8_readsOn : Cond.code yX8_readsOn cX8_readsOn 3 (some .int) ∈ gw := gw_at 891 (by decide +kernel) rfl
theorem lkX8_212 : Cond.methodLink RX8 212 yX8_closes ∈ gw := gw_at 892 (by decide +kernel) rfl
theorem im_X8_closes : Cond.instanceMethod yX8_closes ∈ gw := gw_at 894 (by decide +kernel) rfl
theorem cd_X8_closes : Cond.code yX8_closes cX8_closes 2 none ∈ gw := gw_at 895 (by decide +kernel) rfl
theorem lkX8_167 : Cond.methodLink RX8 167 yX8_isDelta ∈ gw := gw_at 896 (by decide +kernel) rfl
theorem st_X8_isDelta : Cond.static yX8_isDelta ∈ gw := gw_at 897 (by decide +kernel) rfl
theorem cd_X8_isDelta : Cond.code yX8_isDelta cX8_isDelta 2 (some .boolean) ∈ gw := gw_at 898 (by decide +kernel) rfl
theorem lkX8_171 : Cond.methodLink RX8 171 yX8_turns ∈ gw := gw_at 899 (by decide +kernel) rfl
theorem im_X8_turns : Cond.instanceMethod yX8_turns ∈ gw := gw_at 901 (by decide +kernel) rfl
theorem cd_X8_turns : Cond.code yX8_turns cX8_turns 7 none ∈ gw := gw_at 902 (by decide +kernel) rfl
theorem lkX8_137 : Cond.methodLink RX8 137 yX8_puts ∈ gw := gw_at 903 (by decide +kernel) rfl
theorem im_X8_puts : Cond.instanceMethod yX8_puts ∈ gw := gw_at 905 (by decide +kernel) rfl
theorem cd_X8_puts : Cond.code yX8_puts cX8_puts 7 none ∈ gw := gw_at 906 (by decide +kernel) rfl
theorem lkX8_175 : Cond.methodLink RX8 175 yX8_isFlat ∈ gw := gw_at 907 (by decide +kernel) rfl
theorem st_X8_isFlat : Cond.static yX8_isFlat ∈ gw := gw_at 908 (by decide +kernel) rfl
theorem cd_X8_isFlat : Cond.code yX8_isFlat cX8_isFlat 2 (some .boolean) ∈ gw := gw_at 909 (by decide +kernel) rfl
theorem lkX8_178 : Cond.methodLink RX8 178 yX8_makes ∈ gw := gw_at 910 (by decide +kernel) rfl
theorem im_X8_makes : Cond.instanceMethod yX8_makes ∈ gw := gw_at 912 (by decide +kernel) rfl
theorem cd_X8_makes : Cond.code yX8_makes cX8_makes 7 none ∈ gw := gw_at 913 (by decide +kernel) rfl
theorem lkL_30 : Cond.methodLink RL 30 yX8_read ∈ gw := gw_at 914 (by decide +kernel) rfl
theorem im_X8_read : Cond.instanceMethod yX8_read ∈ gw := gw_at 915 (by decide +kernel) rfl
theorem se_X8_read : Cond.selects RX8 yX8_read yX8_read ∈ gw := gw_at 916 (by decide +kernel) rfl
theorem cd_X8_read : Cond.code yX8_read cX8_read 2 (some .int) ∈ gw := gw_at 917 (by decide +kernel) rfl
theorem lkX8_234 : Cond.methodLink RX8 234 yX8_isRow ∈ gw := gw_at 918 (by decide +kernel) rfl
theorem st_X8_isRow : Cond.static yX8_isRow ∈ gw := gw_at 919 (by decide +kernel) rfl
theorem cd_X8_isRow : Cond.code yX8_isRow cX8_isRow 1 (some .boolean) ∈ gw := gw_at 920 (by decide +kernel) rfl
theorem lkX8_237 : Cond.methodLink RX8 237 yX8_becomes ∈ gw := gw_at 921 (by decide +kernel) rfl
theorem im_X8_becomes : Cond.instanceMethod yX8_becomes ∈ gw := gw_at 923 (by decide +kernel) rfl
theorem cd_X8_becomes : Cond.code yX8_becomes cX8_becomes 4 (some .int) ∈ gw := gw_at 924 (by decide +kernel) rfl
theorem lkL_35 : Cond.methodLink RL 35 yX8_compose ∈ gw := gw_at 925 (by decide +kernel) rfl
theorem im_X8_compose : Cond.instanceMethod yX8_compose ∈ gw := gw_at 926 (by decide +kernel) rfl
theorem se_X8_compose : Cond.selects RX8 yX8_compose yX8_compose ∈ gw := gw_at 927 (by decide +kernel) rfl
theorem cd_X8_compose : Cond.code yX8_compose cX8_compose 4 (some .int) ∈ gw := gw_at 928 (by decide +kernel) rfl
theorem lkL_40 : Cond.methodLink RL 40 yX8_invert ∈ gw := gw_at 929 (by decide +kernel) rfl
theorem im_X8_invert : Cond.instanceMethod yX8_invert ∈ gw := gw_at 930 (by decide +kernel) rfl
theorem se_X8_invert : Cond.selects RX8 yX8_invert yX8_invert ∈ gw := gw_at 931 (by decide +kernel) rfl
theorem cd_X8_invert : Cond.code yX8_invert cX8_invert 3 (some .int) ∈ gw := gw_at 932 (by decide +kernel) rfl
theorem lkX8_241 : Cond.methodLink RX8 241 yX8_laysOne ∈ gw := gw_at 933 (by decide +kernel) rfl
theorem im_X8_laysOne : Cond.instanceMethod yX8_laysOne ∈ gw := gw_at 935 (by decide +kernel) rfl
theorem cd_X8_laysOne : Cond.code yX8_laysOne cX8_laysOne 2 none ∈ gw := gw_at 936 (by decide +kernel) rfl
theorem lkL_44 : Cond.methodLink RL 44 yX8_part ∈ gw := gw_at 937 (by decide +kernel) rfl
theorem im_X8_part : Cond.instanceMethod yX8_part ∈ gw := gw_at 938 (by decide +kernel) rfl
theorem se_X8_part : Cond.selects RX8 yX8_part yX8_part ∈ gw := gw_at 939 (by decide +kernel) rfl
theorem cd_X8_part : Cond.code yX8_part cX8_part 5 (some .int) ∈ gw := gw_at 940 (by decide +kernel) rfl
theorem lkX8_244 : Cond.methodLink RX8 244 yX8_copiesRow ∈ gw := gw_at 941 (by decide +kernel) rfl
theorem im_X8_copiesRow : Cond.instanceMethod yX8_copiesRow ∈ gw := gw_at 943 (by decide +kernel) rfl
theorem cd_X8_copiesRow : Cond.code yX8_copiesRow cX8_copiesRow 2 none ∈ gw := gw_at 944 (by decide +kernel) rfl
theorem lkL_48 : Cond.methodLink RL 48 yX8_move ∈ gw := gw_at 945 (by decide +kernel) rfl
theorem im_X8_move : Cond.instanceMethod yX8_move ∈ gw := gw_at 946 (by decide +kernel) rfl
theorem se_X8_move : Cond.selects RX8 yX8_move yX8_move ∈ gw := gw_at 947 (by decide +kernel) rfl
theorem cd_X8_move : Cond.code yX8_move cX8_move 4 (some .int) ∈ gw := gw_at 948 (by decide +kernel) rfl
theorem lkX8_247 : Cond.methodLink RX8 247 yX8_isNumber ∈ gw := gw_at 949 (by decide +kernel) rfl
theorem st_X8_isNumber : Cond.static yX8_isNumber ∈ gw := gw_at 950 (by decide +kernel) rfl
theorem cd_X8_isNumber : Cond.code yX8_isNumber cX8_isNumber 1 (some .boolean) ∈ gw := gw_at 951 (by decide +kernel) rfl
theorem lkL_52 : Cond.methodLink RL 52 yX8_stretch ∈ gw := gw_at 952 (by decide +kernel) rfl
theorem im_X8_stretch : Cond.instanceMethod yX8_stretch ∈ gw := gw_at 953 (by decide +kernel) rfl
theorem se_X8_stretch : Cond.selects RX8 yX8_stretch yX8_stretch ∈ gw := gw_at 954 (by decide +kernel) rfl
theorem cd_X8_stretch : Cond.code yX8_stretch cX8_stretch 6 (some .int) ∈ gw := gw_at 955 (by decide +kernel) rfl
theorem lkL_56 : Cond.methodLink RL 56 yX8_series ∈ gw := gw_at 956 (by decide +kernel) rfl
theorem im_X8_series : Cond.instanceMethod yX8_series ∈ gw := gw_at 957 (by decide +kernel) rfl
theorem se_X8_series : Cond.selects RX8 yX8_series yX8_series ∈ gw := gw_at 958 (by decide +kernel) rfl
theorem cd_X8_series : Cond.code yX8_series cX8_series 4 (some .int) ∈ gw := gw_at 959 (by decide +kernel) rfl
theorem lkX8_250 : Cond.methodLink RX8 250 yX8_isPlace ∈ gw := gw_at 960 (by decide +kernel) rfl
theorem st_X8_isPlace : Cond.static yX8_isPlace ∈ gw := gw_at 961 (by decide +kernel) rfl
theorem cd_X8_isPlace : Cond.code yX8_isPlace cX8_isPlace 1 (some .boolean) ∈ gw := gw_at 962 (by decide +kernel) rfl
theorem lkL_60 : Cond.methodLink RL 60 yX8_polynomial ∈ gw := gw_at 963 (by decide +kernel) rfl
theorem im_X8_polynomial : Cond.instanceMethod yX8_polynomial ∈ gw := gw_at 964 (by decide +kernel) rfl
theorem se_X8_polynomial : Cond.selects RX8 yX8_polynomial yX8_polynomial ∈ gw := gw_at 965 (by decide +kernel) rfl
theorem cd_X8_polynomial : Cond.code yX8_polynomial cX8_polynomial 4 (some .int) ∈ gw := gw_at 966 (by decide +kernel) rfl
theorem lkX8_260 : Cond.methodLink RX8 260 yX8_laysRow ∈ gw := gw_at 967 (by decide +kernel) rfl
theorem im_X8_laysRow : Cond.instanceMethod yX8_laysRow ∈ gw := gw_at 969 (by decide +kernel) rfl
theorem cd_X8_laysRow : Cond.code yX8_laysRow cX8_laysRow 7 none ∈ gw := gw_at 970 (by decide +kernel) rfl
theorem lkX8_256 : Cond.methodLink RX8 256 yX8_solves ∈ gw := gw_at 971 (by decide +kernel) rfl
theorem im_X8_solves : Cond.instanceMethod yX8_solves ∈ gw := gw_at 973 (by decide +kernel) rfl
theorem cd_X8_solves : Cond.code yX8_solves cX8_solves 8 none ∈ gw := gw_at 974 (by decide +kernel) rfl
theorem lkX8_253 : Cond.methodLink RX8 253 yX8_falls ∈ gw := gw_at 975 (by decide +kernel) rfl
theorem st_X8_falls : Cond.static yX8_falls ∈ gw := gw_at 976 (by decide +kernel) rfl
theorem cd_X8_falls : Cond.code yX8_falls cX8_falls 4 (some .int) ∈ gw := gw_at 977 (by decide +kernel) rfl
theorem lkL_64 : Cond.methodLink RL 64 yX8_value ∈ gw := gw_at 978 (by decide +kernel) rfl
theorem im_X8_value : Cond.instanceMethod yX8_value ∈ gw := gw_at 979 (by decide +kernel) rfl
theorem se_X8_value : Cond.selects RX8 yX8_value yX8_value ∈ gw := gw_at 980 (by decide +kernel) rfl
theorem cd_X8_value : Cond.code yX8_value cX8_value 4 (some .int) ∈ gw := gw_at 981 (by decide +kernel) rfl
theorem lkX8_263 : Cond.methodLink RX8 263 yX8_valueOf ∈ gw := gw_at 982 (by decide +kernel) rfl
theorem st_X8_valueOf : Cond.static yX8_valueOf ∈ gw := gw_at 983 (by decide +kernel) rfl
theorem cd_X8_valueOf : Cond.code yX8_valueOf cX8_valueOf 5 (some .int) ∈ gw := gw_at 984 (by decide +kernel) rfl
theorem lkL_69 : Cond.methodLink RL 69 yX8_connect ∈ gw := gw_at 985 (by decide +kernel) rfl
theorem im_X8_connect : Cond.instanceMethod yX8_connect ∈ gw := gw_at 986 (by decide +kernel) rfl
theorem se_X8_connect : Cond.selects RX8 yX8_connect yX8_connect ∈ gw := gw_at 987 (by decide +kernel) rfl
theorem cd_X8_connect : Cond.code yX8_connect cX8_connect 5 (some .int) ∈ gw := gw_at 988 (by decide +kernel) rfl
theorem lkX8_267 : Cond.methodLink RX8 267 yX8_takesApart ∈ gw := gw_at 989 (by decide +kernel) rfl
theorem im_X8_takesApart : Cond.instanceMethod yX8_takesApart ∈ gw := gw_at 991 (by decide +kernel) rfl
theorem cd_X8_takesApart : Cond.code yX8_takesApart cX8_takesApart 6 none ∈ gw := gw_at 992 (by decide +kernel) rfl
theorem lkL_73 : Cond.methodLink RL 73 yX8_differ ∈ gw := gw_at 993 (by decide +kernel) rfl
theorem im_X8_differ : Cond.instanceMethod yX8_differ ∈ gw := gw_at 994 (by decide +kernel) rfl
theorem se_X8_differ : Cond.selects RX8 yX8_differ yX8_differ ∈ gw := gw_at 995 (by decide +kernel) rfl
theorem cd_X8_differ : Cond.code yX8_differ cX8_differ 4 (some .int) ∈ gw := gw_at 996 (by decide +kernel) rfl
theorem lkL_77 : Cond.methodLink RL 77 yX8_take ∈ gw := gw_at 997 (by decide +kernel) rfl
theorem im_X8_take : Cond.instanceMethod yX8_take ∈ gw := gw_at 998 (by decide +kernel) rfl
theorem se_X8_take : Cond.selects RX8 yX8_take yX8_take ∈ gw := gw_at 999 (by decide +kernel) rfl
theorem cd_X8_take : Cond.code yX8_take cX8_take 3 (some .int) ∈ gw := gw_at 1000 (by decide +kernel) rfl
theorem lkX8_273 : Cond.methodLink RX8 273 yX8_notes ∈ gw := gw_at 1001 (by decide +kernel) rfl
theorem im_X8_notes : Cond.instanceMethod yX8_notes ∈ gw := gw_at 1003 (by decide +kernel) rfl
theorem cd_X8_notes : Cond.code yX8_notes cX8_notes 1 none ∈ gw := gw_at 1004 (by decide +kernel) rfl
theorem lkL_81 : Cond.methodLink RL 81 yX8_put ∈ gw := gw_at 1005 (by decide +kernel) rfl
theorem im_X8_put : Cond.instanceMethod yX8_put ∈ gw := gw_at 1006 (by decide +kernel) rfl
theorem se_X8_put : Cond.selects RX8 yX8_put yX8_put ∈ gw := gw_at 1007 (by decide +kernel) rfl
theorem cd_X8_put : Cond.code yX8_put cX8_put 4 (some .int) ∈ gw := gw_at 1008 (by decide +kernel) rfl
theorem lkL_85 : Cond.methodLink RL 85 yX8_plus ∈ gw := gw_at 1009 (by decide +kernel) rfl
theorem im_X8_plus : Cond.instanceMethod yX8_plus ∈ gw := gw_at 1010 (by decide +kernel) rfl
theorem se_X8_plus : Cond.selects RX8 yX8_plus yX8_plus ∈ gw := gw_at 1011 (by decide +kernel) rfl
theorem cd_X8_plus : Cond.code yX8_plus cX8_plus 5 (some .int) ∈ gw := gw_at 1012 (by decide +kernel) rfl
theorem lkL_89 : Cond.methodLink RL 89 yX8_act ∈ gw := gw_at 1013 (by decide +kernel) rfl
theorem im_X8_act : Cond.instanceMethod yX8_act ∈ gw := gw_at 1014 (by decide +kernel) rfl
theorem se_X8_act : Cond.selects RX8 yX8_act yX8_act ∈ gw := gw_at 1015 (by decide +kernel) rfl
theorem cd_X8_act : Cond.code yX8_act cX8_act 6 (some .int) ∈ gw := gw_at 1016 (by decide +kernel) rfl
theorem lkL_93 : Cond.methodLink RL 93 yX8_raise ∈ gw := gw_at 1017 (by decide +kernel) rfl
theorem im_X8_raise : Cond.instanceMethod yX8_raise ∈ gw := gw_at 1018 (by decide +kernel) rfl
theorem se_X8_raise : Cond.selects RX8 yX8_raise yX8_raise ∈ gw := gw_at 1019 (by decide +kernel) rfl
theorem cd_X8_raise : Cond.code yX8_raise cX8_raise 2 (some .int) ∈ gw := gw_at 1020 (by decide +kernel) rfl
theorem lkL_97 : Cond.methodLink RL 97 yX8_shift ∈ gw := gw_at 1021 (by decide +kernel) rfl
theorem im_X8_shift : Cond.instanceMethod yX8_shift ∈ gw := gw_at 1022 (by decide +kernel) rfl
theorem se_X8_shift : Cond.selects RX8 yX8_shift yX8_shift ∈ gw := gw_at 1023 (by decide +kernel) rfl
theorem cd_X8_shift : Cond.code yX8_shift cX8_shift 4 (some .int) ∈ gw := gw_at 1024 (by decide +kernel) rfl
theorem lkL_101 : Cond.methodLink RL 101 yX8_times ∈ gw := gw_at 1025 (by decide +kernel) rfl
theorem im_X8_times : Cond.instanceMethod yX8_times ∈ gw := gw_at 1026 (by decide +kernel) rfl
theorem se_X8_times : Cond.selects RX8 yX8_times yX8_times ∈ gw := gw_at 1027 (by decide +kernel) rfl
theorem cd_X8_times : Cond.code yX8_times cX8_times 2 (some .int) ∈ gw := gw_at 1028 (by decide +kernel) rfl
theorem lkL_105 : Cond.methodLink RL 105 yX8_swap ∈ gw := gw_at 1029 (by decide +kernel) rfl
theorem im_X8_swap : Cond.instanceMethod yX8_swap ∈ gw := gw_at 1030 (by decide +kernel) rfl
theorem se_X8_swap : Cond.selects RX8 yX8_swap yX8_swap ∈ gw := gw_at 1031 (by decide +kernel) rfl
theorem cd_X8_swap : Cond.code yX8_swap cX8_swap 3 (some .int) ∈ gw := gw_at 1032 (by decide +kernel) rfl
theorem lkX8_276 : Cond.methodLink RX8 276 yX8_joins ∈ gw := gw_at 1033 (by decide +kernel) rfl
theorem im_X8_joins : Cond.instanceMethod yX8_joins ∈ gw := gw_at 1035 (by decide +kernel) rfl
theorem cd_X8_joins : Cond.code yX8_joins cX8_joins 6 none ∈ gw := gw_at 1036 (by decide +kernel) rfl
theorem lkL_109 : Cond.methodLink RL 109 yX8_climb ∈ gw := gw_at 1037 (by decide +kernel) rfl
theorem im_X8_climb : Cond.instanceMethod yX8_climb ∈ gw := gw_at 1038 (by decide +kernel) rfl
theorem se_X8_climb : Cond.selects RX8 yX8_climb yX8_climb ∈ gw := gw_at 1039 (by decide +kernel) rfl
theorem cd_X8_climb : Cond.code yX8_climb cX8_climb 3 (some .int) ∈ gw := gw_at 1040 (by decide +kernel) rfl
theorem lkL_113 : Cond.methodLink RL 113 yX8_weigh ∈ gw := gw_at 1041 (by decide +kernel) rfl
theorem im_X8_weigh : Cond.instanceMethod yX8_weigh ∈ gw := gw_at 1042 (by decide +kernel) rfl
theorem se_X8_weigh : Cond.selects RX8 yX8_weigh yX8_weigh ∈ gw := gw_at 1043 (by decide +kernel) rfl
theorem cd_X8_weigh : Cond.code yX8_weigh cX8_weigh 3 (some .int) ∈ gw := gw_at 1044 (by decide +kernel) rfl
theorem lkL_117 : Cond.methodLink RL 117 yX8_undo ∈ gw := gw_at 1045 (by decide +kernel) rfl
theorem im_X8_undo : Cond.instanceMethod yX8_undo ∈ gw := gw_at 1046 (by decide +kernel) rfl
theorem se_X8_undo : Cond.selects RX8 yX8_undo yX8_undo ∈ gw := gw_at 1047 (by decide +kernel) rfl
theorem cd_X8_undo : Cond.code yX8_undo cX8_undo 1 (some .int) ∈ gw := gw_at 1048 (by decide +kernel) rfl
theorem lkL_121 : Cond.methodLink RL 121 yX8_hand ∈ gw := gw_at 1049 (by decide +kernel) rfl
theorem im_X8_hand : Cond.instanceMethod yX8_hand ∈ gw := gw_at 1050 (by decide +kernel) rfl
theorem se_X8_hand : Cond.selects RX8 yX8_hand yX8_hand ∈ gw := gw_at 1051 (by decide +kernel) rfl
theorem cd_X8_hand : Cond.code yX8_hand cX8_hand 2 (some .int) ∈ gw := gw_at 1052 (by decide +kernel) rfl
theorem lkL_125 : Cond.methodLink RL 125 yX8_at ∈ gw := gw_at 1053 (by decide +kernel) rfl
theorem im_X8_at : Cond.instanceMethod yX8_at ∈ gw := gw_at 1054 (by decide +kernel) rfl
theorem se_X8_at : Cond.selects RX8 yX8_at yX8_at ∈ gw := gw_at 1055 (by decide +kernel) rfl
theorem cd_X8_at : Cond.code yX8_at cX8_at 2 (some .int) ∈ gw := gw_at 1056 (by decide +kernel) rfl
theorem lkL_129 : Cond.methodLink RL 129 yX8_expand ∈ gw := gw_at 1057 (by decide +kernel) rfl
theorem im_X8_expand : Cond.instanceMethod yX8_expand ∈ gw := gw_at 1058 (by decide +kernel) rfl
theorem se_X8_expand : Cond.selects RX8 yX8_expand yX8_expand ∈ gw := gw_at 1059 (by decide +kernel) rfl
theorem cd_X8_expand : Cond.code yX8_expand cX8_expand 3 (some .int) ∈ gw := gw_at 1060 (by decide +kernel) rfl
theorem lkL_133 : Cond.methodLink RL 133 yX8_sum ∈ gw := gw_at 1061 (by decide +kernel) rfl
theorem im_X8_sum : Cond.instanceMethod yX8_sum ∈ gw := gw_at 1062 (by decide +kernel) rfl
theorem se_X8_sum : Cond.selects RX8 yX8_sum yX8_sum ∈ gw := gw_at 1063 (by decide +kernel) rfl
theorem cd_X8_sum : Cond.code yX8_sum cX8_sum 4 (some .int) ∈ gw := gw_at 1064 (by decide +kernel) rfl
theorem lkL_137 : Cond.methodLink RL 137 yX8_keep ∈ gw := gw_at 1065 (by decide +kernel) rfl
theorem im_X8_keep : Cond.instanceMethod yX8_keep ∈ gw := gw_at 1066 (by decide +kernel) rfl
theorem se_X8_keep : Cond.selects RX8 yX8_keep yX8_keep ∈ gw := gw_at 1067 (by decide +kernel) rfl
theorem cd_X8_keep : Cond.code yX8_keep cX8_keep 2 (some .int) ∈ gw := gw_at 1068 (by decide +kernel) rfl
theorem lkX8_280 : Cond.methodLink RX8 280 yX8_many ∈ gw := gw_at 1069 (by decide +kernel) rfl
theorem im_X8_many : Cond.instanceMethod yX8_many ∈ gw := gw_at 1071 (by decide +kernel) rfl
theorem cd_X8_many : Cond.code yX8_many cX8_many 3 (some .int) ∈ gw := gw_at 1072 (by decide +kernel) rfl
theorem lkL_141 : Cond.methodLink RL 141 yX8_back ∈ gw := gw_at 1073 (by decide +kernel) rfl
theorem im_X8_back : Cond.instanceMethod yX8_back ∈ gw := gw_at 1074 (by decide +kernel) rfl
theorem se_X8_back : Cond.selects RX8 yX8_back yX8_back ∈ gw := gw_at 1075 (by decide +kernel) rfl
theorem cd_X8_back : Cond.code yX8_back cX8_back 2 (some .int) ∈ gw := gw_at 1076 (by decide +kernel) rfl
theorem lkL_145 : Cond.methodLink RL 145 yX8_count ∈ gw := gw_at 1077 (by decide +kernel) rfl
theorem im_X8_count : Cond.instanceMethod yX8_count ∈ gw := gw_at 1078 (by decide +kernel) rfl
theorem se_X8_count : Cond.selects RX8 yX8_count yX8_count ∈ gw := gw_at 1079 (by decide +kernel) rfl
theorem cd_X8_count : Cond.code yX8_count cX8_count 2 (some .int) ∈ gw := gw_at 1080 (by decide +kernel) rfl
theorem lkX8_283 : Cond.methodLink RX8 283 yX8_degree ∈ gw := gw_at 1081 (by decide +kernel) rfl
theorem im_X8_degree : Cond.instanceMethod yX8_degree ∈ gw := gw_at 1083 (by decide +kernel) rfl
theorem cd_X8_degree : Cond.code yX8_degree cX8_degree 2 (some .int) ∈ gw := gw_at 1084 (by decide +kernel) rfl
theorem lkX8_286 : Cond.methodLink RX8 286 yX8_leastOf ∈ gw := gw_at 1085 (by decide +kernel) rfl
theorem im_X8_leastOf : Cond.instanceMethod yX8_leastOf ∈ gw := gw_at 1087 (by decide +kernel) rfl
theorem cd_X8_leastOf : Cond.code yX8_leastOf cX8_leastOf 3 (some .int) ∈ gw := gw_at 1088 (by decide +kernel) rfl
theorem se_X5_reckonAll : Cond.selects RX5 yX5_reckonAll yX5_reckonAll ∈ gw := gw_at 0 (by decide +kernel) rfl
theorem se_X4_lower : Cond.selects RX4 yX4_lower yX4_lower ∈ gw := gw_at 1 (by decide +kernel) rfl
theorem se_X6_toNextToken : Cond.selects RX6 yX6_toNextToken yX6_toNextToken ∈ gw := gw_at 2 (by decide +kernel) rfl
theorem se_X6_standsSum : Cond.selects RX6 yX6_standsSum yX6_standsSum ∈ gw := gw_at 3 (by decide +kernel) rfl
theorem se_X6_standsProduct : Cond.selects RX6 yX6_standsProduct yX6_standsProduct ∈ gw := gw_at 4 (by decide +kernel) rfl
theorem se_X6_standsPower : Cond.selects RX6 yX6_standsPower yX6_standsPower ∈ gw := gw_at 5 (by decide +kernel) rfl
theorem se_X6_standsThing : Cond.selects RX6 yX6_standsThing yX6_standsThing ∈ gw := gw_at 6 (by decide +kernel) rfl
theorem se_X6_addStep : Cond.selects RX6 yX6_addStep yX6_addStep ∈ gw := gw_at 7 (by decide +kernel) rfl
theorem se_X6_isNumber : Cond.selects RX6 yX6_isNumber yX6_isNumber ∈ gw := gw_at 8 (by decide +kernel) rfl
theorem se_X6_amount : Cond.selects RX6 yX6_amount yX6_amount ∈ gw := gw_at 9 (by decide +kernel) rfl
theorem se_X3_goStep : Cond.selects RX3 yX3_goStep yX3_goStep ∈ gw := gw_at 10 (by decide +kernel) rfl
theorem se_X3_pushMonomial : Cond.selects RX3 yX3_pushMonomial yX3_pushMonomial ∈ gw := gw_at 11 (by decide +kernel) rfl
theorem se_X3_joinTwo : Cond.selects RX3 yX3_joinTwo yX3_joinTwo ∈ gw := gw_at 12 (by decide +kernel) rfl
theorem se_X3_toPower : Cond.selects RX3 yX3_toPower yX3_toPower ∈ gw := gw_at 13 (by decide +kernel) rfl
theorem se_X3_turn : Cond.selects RX3 yX3_turn yX3_turn ∈ gw := gw_at 14 (by decide +kernel) rfl
theorem se_X3_seriesOf : Cond.selects RX3 yX3_seriesOf yX3_seriesOf ∈ gw := gw_at 15 (by decide +kernel) rfl
theorem se_X8_reads : Cond.selects RX8 yX8_reads yX8_reads ∈ gw := gw_at 16 (by decide +kernel) rfl
theorem se_X8_readsSum : Cond.selects RX8 yX8_readsSum yX8_readsSum ∈ gw := gw_at 17 (by decide +kernel) rfl
theorem se_X8_begins : Cond.selects RX8 yX8_begins yX8_begins ∈ gw := gw_at 18 (by decide +kernel) rfl
theorem se_X8_sign : Cond.selects RX8 yX8_sign yX8_sign ∈ gw := gw_at 19 (by decide +kernel) rfl
theorem se_X8_endsProduct : Cond.selects RX8 yX8_endsProduct yX8_endsProduct ∈ gw := gw_at 20 (by decide +kernel) rfl
theorem se_X8_endsPower : Cond.selects RX8 yX8_endsPower yX8_endsPower ∈ gw := gw_at 21 (by decide +kernel) rfl
theorem se_X8_multiplies : Cond.selects RX8 yX8_multiplies yX8_multiplies ∈ gw := gw_at 22 (by decide +kernel) rfl
theorem se_X8_clears : Cond.selects RX8 yX8_clears yX8_clears ∈ gw := gw_at 23 (by decide +kernel) rfl
theorem se_X8_toMade : Cond.selects RX8 yX8_toMade yX8_toMade ∈ gw := gw_at 24 (by decide +kernel) rfl
theorem se_X8_divides : Cond.selects RX8 yX8_divides yX8_divides ∈ gw := gw_at 25 (by decide +kernel) rfl
theorem se_X8_readsThing : Cond.selects RX8 yX8_readsThing yX8_readsThing ∈ gw := gw_at 26 (by decide +kernel) rfl
theorem se_X8_figures : Cond.selects RX8 yX8_figures yX8_figures ∈ gw := gw_at 27 (by decide +kernel) rfl
theorem se_X8_numberOf : Cond.selects RX8 yX8_numberOf yX8_numberOf ∈ gw := gw_at 28 (by decide +kernel) rfl
theorem se_X8_sets : Cond.selects RX8 yX8_sets yX8_sets ∈ gw := gw_at 29 (by decide +kernel) rfl
theorem se_X8_readsBracket : Cond.selects RX8 yX8_readsBracket yX8_readsBracket ∈ gw := gw_at 30 (by decide +kernel) rfl
theorem se_X8_readsTimes : Cond.selects RX8 yX8_readsTimes yX8_readsTimes ∈ gw := gw_at 31 (by decide +kernel) rfl
theorem se_X8_raisesThing : Cond.selects RX8 yX8_raisesThing yX8_raisesThing ∈ gw := gw_at 32 (by decide +kernel) rfl
theorem se_X8_sofarOne : Cond.selects RX8 yX8_sofarOne yX8_sofarOne ∈ gw := gw_at 33 (by decide +kernel) rfl
theorem se_X8_readsOn : Cond.selects RX8 yX8_readsOn yX8_readsOn ∈ gw := gw_at 34 (by decide +kernel) rfl
theorem se_X8_closes : Cond.selects RX8 yX8_closes yX8_closes ∈ gw := gw_at 35 (by decide +kernel) rfl
theorem se_X8_turns : Cond.selects RX8 yX8_turns yX8_turns ∈ gw := gw_at 36 (by decide +kernel) rfl
theorem se_X8_puts : Cond.selects RX8 yX8_puts yX8_puts ∈ gw := gw_at 37 (by decide +kernel) rfl
theorem se_X8_makes : Cond.selects RX8 yX8_makes yX8_makes ∈ gw := gw_at 38 (by decide +kernel) rfl
theorem se_X8_becomes : Cond.selects RX8 yX8_becomes yX8_becomes ∈ gw := gw_at 39 (by decide +kernel) rfl
theorem se_X8_laysOne : Cond.selects RX8 yX8_laysOne yX8_laysOne ∈ gw := gw_at 40 (by decide +kernel) rfl
theorem se_X8_copiesRow : Cond.selects RX8 yX8_copiesRow yX8_copiesRow ∈ gw := gw_at 41 (by decide +kernel) rfl
theorem se_X8_laysRow : Cond.selects RX8 yX8_laysRow yX8_laysRow ∈ gw := gw_at 42 (by decide +kernel) rfl
theorem se_X8_solves : Cond.selects RX8 yX8_solves yX8_solves ∈ gw := gw_at 43 (by decide +kernel) rfl
theorem se_X8_takesApart : Cond.selects RX8 yX8_takesApart yX8_takesApart ∈ gw := gw_at 44 (by decide +kernel) rfl
theorem se_X8_notes : Cond.selects RX8 yX8_notes yX8_notes ∈ gw := gw_at 45 (by decide +kernel) rfl
theorem se_X8_joins : Cond.selects RX8 yX8_joins yX8_joins ∈ gw := gw_at 46 (by decide +kernel) rfl
theorem se_X8_many : Cond.selects RX8 yX8_many yX8_many ∈ gw := gw_at 47 (by decide +kernel) rfl
theorem se_X8_degree : Cond.selects RX8 yX8_degree yX8_degree ∈ gw := gw_at 48 (by decide +kernel) rfl
theorem se_X8_leastOf : Cond.selects RX8 yX8_leastOf yX8_leastOf ∈ gw := gw_at 49 (by decide +kernel) rfl
end
section
theorem dX0_init_0 : decode cX0_init 0 = .ok (.aload_n 0, 1) := by decide +kernel
theorem dX0_init_1 : decode cX0_init 1 = .ok (.invokespecial 3, 3) := by decide +kernel
theorem dX0_init_4 : decode cX0_init 4 = .ok (.aload_n 0, 1) := by decide +kernel
theorem dX0_init_5 : decode cX0_init 5 = .ok (.bipush 9, 2) := by decide +kernel
theorem dX0_init_7 : decode cX0_init 7 = .ok (.newarray .int, 2) := by decide +kernel
theorem dX0_init_9 : decode cX0_init 9 = .ok (.putfield 9, 3) := by decide +kernel
theorem dX0_init_12 : decode cX0_init 12 = .ok (.aload_n 0, 1) := by decide +kernel
theorem dX0_init_13 : decode cX0_init 13 = .ok (.iconst 0, 1) := by decide +kernel
theorem dX0_init_14 : decode cX0_init 14 = .ok (.putfield 15, 3) := by decide +kernel
theorem dX0_init_17 : decode cX0_init 17 = .ok (.aload_n 0, 1) := by decide +kernel
theorem dX0_init_18 : decode cX0_init 18 = .ok (.bipush 8, 2) := by decide +kernel
theorem dX0_init_20 : decode cX0_init 20 = .ok (.bipush 9, 2) := by decide +kernel
theorem dX0_init_22 : decode cX0_init 22 = .ok (.multianewarray 19 2, 4) := by decide +kernel
theorem dX0_init_26 : decode cX0_init 26 = .ok (.putfield 21, 3) := by decide +kernel
theorem dX0_init_29 : decode cX0_init 29 = .ok (.aload_n 0, 1) := by decide +kernel
theorem dX0_init_30 : decode cX0_init 30 = .ok (.iconst 0, 1) := by decide +kernel
theorem dX0_init_31 : decode cX0_init 31 = .ok (.putfield 24, 3) := by decide +kernel
theorem dX0_init_34 : decode cX0_init 34 = .ok (.return_, 1) := by decide +kernel
theorem dX0_remember_0 : decode cX0_remember 0 = .ok (.aload_n 0, 1) := by decide +kernel
theorem dX0_remember_1 : decode cX0_remember 1 = .ok (.getfield 9, 3) := by decide +kernel
theorem dX0_remember_4 : decode cX0_remember 4 = .ok (.aload_n 0, 1) := by decide +kernel
theorem dX0_remember_5 : decode cX0_remember 5 = .ok (.getfield 21, 3) := by decide +kernel
theorem dX0_remember_8 : decode cX0_remember 8 = .ok (.aload_n 0, 1) := by decide +kernel
theorem dX0_remember_9 : decode cX0_remember 9 = .ok (.getfield 24, 3) := by decide +kernel
theorem dX0_remember_12 : decode cX0_remember 12 = .ok (.aaload, 1) := by decide +kernel
theorem dX0_remember_13 : decode cX0_remember 13 = .ok (.invokestatic 27, 3) := by decide +kernel
theorem dX0_remember_16 : decode cX0_remember 16 = .ok (.aload_n 0, 1) := by decide +kernel
theorem dX0_remember_17 : decode cX0_remember 17 = .ok (.aload_n 0, 1) := by decide +kernel
theorem dX0_remember_18 : decode cX0_remember 18 = .ok (.getfield 24, 3) := by decide +kernel
theorem dX0_remember_21 : decode cX0_remember 21 = .ok (.iconst 1, 1) := by decide +kernel
theorem dX0_remember_22 : decode cX0_remember 22 = .ok (.iadd, 1) := by decide +kernel
theorem dX0_remember_23 : decode cX0_remember 23 = .ok (.bipush 8, 2) := by decide +kernel
theorem dX0_remember_25 : decode cX0_remember 25 = .ok (.irem, 1) := by decide +kernel
theorem dX0_remember_26 : decode cX0_remember 26 = .ok (.putfield 24, 3) := by decide +kernel
theorem dX0_remember_29 : decode cX0_remember 29 = .ok (.aload_n 0, 1) := by decide +kernel
theorem dX0_remember_30 : decode cX0_remember 30 = .ok (.aload_n 0, 1) := by decide +kernel
theorem dX0_remember_31 : decode cX0_remember 31 = .ok (.getfield 15, 3) := by decide +kernel
theorem dX0_remember_34 : decode cX0_remember 34 = .ok (.iconst 1, 1) := by decide +kernel
theorem dX0_remember_35 : decode cX0_remember 35 = .ok (.iadd, 1) := by decide +kernel
theorem dX0_remember_36 : decode cX0_remember 36 = .ok (.bipush 8, 2) := by decide +kernel
theorem dX0_remember_38 : decode cX0_remember 38 = .ok (.invokestatic 31, 3) := by decide +kernel
theorem dX0_remember_41 : decode cX0_remember 41 = .ok (.putfield 15, 3) := by decide +kernel
theorem dX0_remember_44 : decode cX0_remember 44 = .ok (.return_, 1) := by decide +kernel
theorem dX0_restore_0 : decode cX0_restore 0 = .ok (.aload_n 0, 1) := by decide +kernel
theorem dX0_restore_1 : decode cX0_restore 1 = .ok (.getfield 15, 3) := by decide +kernel
theorem dX0_restore_4 : decode cX0_restore 4 = .ok (.ifCond .ne 5, 3) := by decide +kernel
theorem dX0_restore_7 : decode cX0_restore 7 = .ok (.iconst 0, 1) := by decide +kernel
theorem dX0_restore_8 : decode cX0_restore 8 = .ok (.ireturn, 1) := by decide +kernel
theorem dX0_restore_9 : decode cX0_restore 9 = .ok (.aload_n 0, 1) := by decide +kernel
theorem dX0_restore_10 : decode cX0_restore 10 = .ok (.aload_n 0, 1) := by decide +kernel
theorem dX0_restore_11 : decode cX0_restore 11 = .ok (.getfield 24, 3) := by decide +kernel
theorem dX0_restore_14 : decode cX0_restore 14 = .ok (.bipush 8, 2) := by decide +kernel
theorem dX0_restore_16 : decode cX0_restore 16 = .ok (.iadd, 1) := by decide +kernel
theorem dX0_restore_17 : decode cX0_restore 17 = .ok (.iconst 1, 1) := by decide +kernel
theorem dX0_restore_18 : decode cX0_restore 18 = .ok (.isub, 1) := by decide +kernel
theorem dX0_restore_19 : decode cX0_restore 19 = .ok (.bipush 8, 2) := by decide +kernel
theorem dX0_restore_21 : decode cX0_restore 21 = .ok (.irem, 1) := by decide +kernel
theorem dX0_restore_22 : decode cX0_restore 22 = .ok (.putfield 24, 3) := by decide +kernel
theorem dX0_restore_25 : decode cX0_restore 25 = .ok (.aload_n 0, 1) := by decide +kernel
theorem dX0_restore_26 : decode cX0_restore 26 = .ok (.dup, 1) := by decide +kernel
theorem dX0_restore_27 : decode cX0_restore 27 = .ok (.getfield 15, 3) := by decide +kernel
theorem dX0_restore_30 : decode cX0_restore 30 = .ok (.iconst 1, 1) := by decide +kernel
theorem dX0_restore_31 : decode cX0_restore 31 = .ok (.isub, 1) := by decide +kernel
theorem dX0_restore_32 : decode cX0_restore 32 = .ok (.putfield 15, 3) := by decide +kernel
theorem dX0_restore_35 : decode cX0_restore 35 = .ok (.aload_n 0, 1) := by decide +kernel
theorem dX0_restore_36 : decode cX0_restore 36 = .ok (.getfield 21, 3) := by decide +kernel
theorem dX0_restore_39 : decode cX0_restore 39 = .ok (.aload_n 0, 1) := by decide +kernel
theorem dX0_restore_40 : decode cX0_restore 40 = .ok (.getfield 24, 3) := by decide +kernel
theorem dX0_restore_43 : decode cX0_restore 43 = .ok (.aaload, 1) := by decide +kernel
theorem dX0_restore_44 : decode cX0_restore 44 = .ok (.aload_n 0, 1) := by decide +kernel
theorem dX0_restore_45 : decode cX0_restore 45 = .ok (.getfield 9, 3) := by decide +kernel
theorem dX0_restore_48 : decode cX0_restore 48 = .ok (.invokestatic 27, 3) := by decide +kernel
theorem dX0_restore_51 : decode cX0_restore 51 = .ok (.iconst 1, 1) := by decide +kernel
theorem dX0_restore_52 : decode cX0_restore 52 = .ok (.ireturn, 1) := by decide +kernel
theorem dX0_forget_0 : decode cX0_forget 0 = .ok (.aload_n 0, 1) := by decide +kernel
theorem dX0_forget_1 : decode cX0_forget 1 = .ok (.iconst 0, 1) := by decide +kernel
theorem dX0_forget_2 : decode cX0_forget 2 = .ok (.putfield 15, 3) := by decide +kernel
theorem dX0_forget_5 : decode cX0_forget 5 = .ok (.return_, 1) := by decide +kernel
theorem dX0_hasTopPower_0 : decode cX0_hasTopPower 0 = .ok (.aload_n 0, 1) := by decide +kernel
theorem dX0_hasTopPower_1 : decode cX0_hasTopPower 1 = .ok (.getfield 9, 3) := by decide +kernel
theorem dX0_hasTopPower_4 : decode cX0_hasTopPower 4 = .ok (.bipush 8, 2) := by decide +kernel
theorem dX0_hasTopPower_6 : decode cX0_hasTopPower 6 = .ok (.iaload, 1) := by decide +kernel
theorem dX0_hasTopPower_7 : decode cX0_hasTopPower 7 = .ok (.ifCond .eq 7, 3) := by decide +kernel
theorem dX0_hasTopPower_10 : decode cX0_hasTopPower 10 = .ok (.iconst 1, 1) := by decide +kernel
theorem dX0_hasTopPower_11 : decode cX0_hasTopPower 11 = .ok (.goto 4, 3) := by decide +kernel
theorem dX0_hasTopPower_14 : decode cX0_hasTopPower 14 = .ok (.iconst 0, 1) := by decide +kernel
theorem dX0_hasTopPower_15 : decode cX0_hasTopPower 15 = .ok (.ireturn, 1) := by decide +kernel
theorem dX0_degree_0 : decode cX0_degree 0 = .ok (.bipush 8, 2) := by decide +kernel
theorem dX0_degree_2 : decode cX0_degree 2 = .ok (.istore_n 1, 1) := by decide +kernel
theorem dX0_degree_3 : decode cX0_degree 3 = .ok (.iload_n 1, 1) := by decide +kernel
theorem dX0_degree_4 : decode cX0_degree 4 = .ok (.ifCond .lt 20, 3) := by decide +kernel
theorem dX0_degree_7 : decode cX0_degree 7 = .ok (.aload_n 0, 1) := by decide +kernel
theorem dX0_degree_8 : decode cX0_degree 8 = .ok (.getfield 9, 3) := by decide +kernel
theorem dX0_degree_11 : decode cX0_degree 11 = .ok (.iload_n 1, 1) := by decide +kernel
theorem dX0_degree_12 : decode cX0_degree 12 = .ok (.iaload, 1) := by decide +kernel
theorem dX0_degree_13 : decode cX0_degree 13 = .ok (.ifCond .eq 5, 3) := by decide +kernel
theorem dX0_degree_16 : decode cX0_degree 16 = .ok (.iload_n 1, 1) := by decide +kernel
theorem dX0_degree_17 : decode cX0_degree 17 = .ok (.ireturn, 1) := by decide +kernel
theorem dX0_degree_18 : decode cX0_degree 18 = .ok (.iinc 1 (-1), 3) := by decide +kernel
theorem dX0_degree_21 : decode cX0_degree 21 = .ok (.goto (-18), 3) := by decide +kernel
theorem dX0_degree_24 : decode cX0_degree 24 = .ok (.iconst (-1), 1) := by decide +kernel
theorem dX0_degree_25 : decode cX0_degree 25 = .ok (.ireturn, 1) := by decide +kernel
theorem dX0_size_0 : decode cX0_size 0 = .ok (.iconst 0, 1) := by decide +kernel
theorem dX0_size_1 : decode cX0_size 1 = .ok (.istore_n 1, 1) := by decide +kernel
theorem dX0_size_2 : decode cX0_size 2 = .ok (.iconst 0, 1) := by decide +kernel
theorem dX0_size_3 : decode cX0_size 3 = .ok (.istore_n 2, 1) := by decide +kernel
theorem dX0_size_4 : decode cX0_size 4 = .ok (.iload_n 2, 1) := by decide +kernel
theorem dX0_size_5 : decode cX0_size 5 = .ok (.bipush 9, 2) := by decide +kernel
theorem dX0_size_7 : decode cX0_size 7 = .ok (.if_icmp .ge 21, 3) := by decide +kernel
theorem dX0_size_10 : decode cX0_size 10 = .ok (.aload_n 0, 1) := by decide +kernel
theorem dX0_size_11 : decode cX0_size 11 = .ok (.getfield 9, 3) := by decide +kernel
theorem dX0_size_14 : decode cX0_size 14 = .ok (.iload_n 2, 1) := by decide +kernel
theorem dX0_size_15 : decode cX0_size 15 = .ok (.iaload, 1) := by decide +kernel
theorem dX0_size_16 : decode cX0_size 16 = .ok (.ifCond .eq 6, 3) := by decide +kernel
theorem dX0_size_19 : decode cX0_size 19 = .ok (.iinc 1 1, 3) := by decide +kernel
theorem dX0_size_22 : decode cX0_size 22 = .ok (.iinc 2 1, 3) := by decide +kernel
theorem dX0_size_25 : decode cX0_size 25 = .ok (.goto (-21), 3) := by decide +kernel
theorem dX0_size_28 : decode cX0_size 28 = .ok (.iload_n 1, 1) := by decide +kernel
theorem dX0_size_29 : decode cX0_size 29 = .ok (.ireturn, 1) := by decide +kernel
theorem dX1_init_0 : decode cX1_init 0 = .ok (.aload_n 0, 1) := by decide +kernel
theorem dX1_init_1 : decode cX1_init 1 = .ok (.invokespecial 3, 3) := by decide +kernel
theorem dX1_init_4 : decode cX1_init 4 = .ok (.aload_n 0, 1) := by decide +kernel
theorem dX1_init_5 : decode cX1_init 5 = .ok (.iconst 4, 1) := by decide +kernel
theorem dX1_init_6 : decode cX1_init 6 = .ok (.bipush 9, 2) := by decide +kernel
theorem dX1_init_8 : decode cX1_init 8 = .ok (.multianewarray 9 2, 4) := by decide +kernel
theorem dX1_init_12 : decode cX1_init 12 = .ok (.putfield 11, 3) := by decide +kernel
theorem dX1_init_15 : decode cX1_init 15 = .ok (.aload_n 0, 1) := by decide +kernel
theorem dX1_init_16 : decode cX1_init 16 = .ok (.iconst 4, 1) := by decide +kernel
theorem dX1_init_17 : decode cX1_init 17 = .ok (.bipush 9, 2) := by decide +kernel
theorem dX1_init_19 : decode cX1_init 19 = .ok (.multianewarray 9 2, 4) := by decide +kernel
theorem dX1_init_23 : decode cX1_init 23 = .ok (.putfield 16, 3) := by decide +kernel
theorem dX1_init_26 : decode cX1_init 26 = .ok (.aload_n 0, 1) := by decide +kernel
theorem dX1_init_27 : decode cX1_init 27 = .ok (.bipush 9, 2) := by decide +kernel
theorem dX1_init_29 : decode cX1_init 29 = .ok (.newarray .int, 2) := by decide +kernel
theorem dX1_init_31 : decode cX1_init 31 = .ok (.putfield 19, 3) := by decide +kernel
theorem dX1_init_34 : decode cX1_init 34 = .ok (.aload_n 0, 1) := by decide +kernel
theorem dX1_init_35 : decode cX1_init 35 = .ok (.iconst 0, 1) := by decide +kernel
theorem dX1_init_36 : decode cX1_init 36 = .ok (.putfield 23, 3) := by decide +kernel
theorem dX1_init_39 : decode cX1_init 39 = .ok (.return_, 1) := by decide +kernel
theorem dX2_holds_0 : decode cX2_holds 0 = .ok (.iload_n 0, 1) := by decide +kernel
theorem dX2_holds_1 : decode cX2_holds 1 = .ok (.ifCond .lt 14, 3) := by decide +kernel
theorem dX2_holds_4 : decode cX2_holds 4 = .ok (.iload_n 0, 1) := by decide +kernel
theorem dX2_holds_5 : decode cX2_holds 5 = .ok (.sipush 9973, 3) := by decide +kernel
theorem dX2_holds_8 : decode cX2_holds 8 = .ok (.if_icmp .ge 7, 3) := by decide +kernel
theorem dX2_holds_11 : decode cX2_holds 11 = .ok (.iconst 1, 1) := by decide +kernel
theorem dX2_holds_12 : decode cX2_holds 12 = .ok (.goto 4, 3) := by decide +kernel
theorem dX2_holds_15 : decode cX2_holds 15 = .ok (.iconst 0, 1) := by decide +kernel
theorem dX2_holds_16 : decode cX2_holds 16 = .ok (.ireturn, 1) := by decide +kernel
theorem dX2_add_0 : decode cX2_add 0 = .ok (.iload_n 0, 1) := by decide +kernel
theorem dX2_add_1 : decode cX2_add 1 = .ok (.iload_n 1, 1) := by decide +kernel
theorem dX2_add_2 : decode cX2_add 2 = .ok (.iadd, 1) := by decide +kernel
theorem dX2_add_3 : decode cX2_add 3 = .ok (.sipush 9973, 3) := by decide +kernel
theorem dX2_add_6 : decode cX2_add 6 = .ok (.irem, 1) := by decide +kernel
theorem dX2_add_7 : decode cX2_add 7 = .ok (.ireturn, 1) := by decide +kernel
theorem dX2_subtract_0 : decode cX2_subtract 0 = .ok (.iload_n 0, 1) := by decide +kernel
theorem dX2_subtract_1 : decode cX2_subtract 1 = .ok (.iload_n 1, 1) := by decide +kernel
theorem dX2_subtract_2 : decode cX2_subtract 2 = .ok (.isub, 1) := by decide +kernel
theorem dX2_subtract_3 : decode cX2_subtract 3 = .ok (.sipush 9973, 3) := by decide +kernel
theorem dX2_subtract_6 : decode cX2_subtract 6 = .ok (.iadd, 1) := by decide +kernel
theorem dX2_subtract_7 : decode cX2_subtract 7 = .ok (.sipush 9973, 3) := by decide +kernel
theorem dX2_subtract_10 : decode cX2_subtract 10 = .ok (.irem, 1) := by decide +kernel
theorem dX2_subtract_11 : decode cX2_subtract 11 = .ok (.ireturn, 1) := by decide +kernel
theorem dX2_multiply_0 : decode cX2_multiply 0 = .ok (.iload_n 0, 1) := by decide +kernel
theorem dX2_multiply_1 : decode cX2_multiply 1 = .ok (.iload_n 1, 1) := by decide +kernel
theorem dX2_multiply_2 : decode cX2_multiply 2 = .ok (.imul, 1) := by decide +kernel
theorem dX2_multiply_3 : decode cX2_multiply 3 = .ok (.sipush 9973, 3) := by decide +kernel
theorem dX2_multiply_6 : decode cX2_multiply 6 = .ok (.irem, 1) := by decide +kernel
theorem dX2_multiply_7 : decode cX2_multiply 7 = .ok (.ireturn, 1) := by decide +kernel
theorem dX2_inverse_0 : decode cX2_inverse 0 = .ok (.iconst 1, 1) := by decide +kernel
theorem dX2_inverse_1 : decode cX2_inverse 1 = .ok (.istore_n 1, 1) := by decide +kernel
theorem dX2_inverse_2 : decode cX2_inverse 2 = .ok (.iload_n 0, 1) := by decide +kernel
theorem dX2_inverse_3 : decode cX2_inverse 3 = .ok (.istore_n 2, 1) := by decide +kernel
theorem dX2_inverse_4 : decode cX2_inverse 4 = .ok (.sipush 9971, 3) := by decide +kernel
theorem dX2_inverse_7 : decode cX2_inverse 7 = .ok (.istore_n 3, 1) := by decide +kernel
theorem dX2_inverse_8 : decode cX2_inverse 8 = .ok (.iload_n 3, 1) := by decide +kernel
theorem dX2_inverse_9 : decode cX2_inverse 9 = .ok (.ifCond .le 33, 3) := by decide +kernel
theorem dX2_inverse_12 : decode cX2_inverse 12 = .ok (.iload_n 3, 1) := by decide +kernel
theorem dX2_inverse_13 : decode cX2_inverse 13 = .ok (.iconst 1, 1) := by decide +kernel
theorem dX2_inverse_14 : decode cX2_inverse 14 = .ok (.iand, 1) := by decide +kernel
theorem dX2_inverse_15 : decode cX2_inverse 15 = .ok (.iconst 1, 1) := by decide +kernel
theorem dX2_inverse_16 : decode cX2_inverse 16 = .ok (.if_icmp .ne 11, 3) := by decide +kernel
theorem dX2_inverse_19 : decode cX2_inverse 19 = .ok (.iload_n 1, 1) := by decide +kernel
theorem dX2_inverse_20 : decode cX2_inverse 20 = .ok (.iload_n 2, 1) := by decide +kernel
theorem dX2_inverse_21 : decode cX2_inverse 21 = .ok (.imul, 1) := by decide +kernel
theorem dX2_inverse_22 : decode cX2_inverse 22 = .ok (.sipush 9973, 3) := by decide +kernel
theorem dX2_inverse_25 : decode cX2_inverse 25 = .ok (.irem, 1) := by decide +kernel
theorem dX2_inverse_26 : decode cX2_inverse 26 = .ok (.istore_n 1, 1) := by decide +kernel
theorem dX2_inverse_27 : decode cX2_inverse 27 = .ok (.iload_n 2, 1) := by decide +kernel
theorem dX2_inverse_28 : decode cX2_inverse 28 = .ok (.iload_n 2, 1) := by decide +kernel
theorem dX2_inverse_29 : decode cX2_inverse 29 = .ok (.imul, 1) := by decide +kernel
theorem dX2_inverse_30 : decode cX2_inverse 30 = .ok (.sipush 9973, 3) := by decide +kernel
theorem dX2_inverse_33 : decode cX2_inverse 33 = .ok (.irem, 1) := by decide +kernel
theorem dX2_inverse_34 : decode cX2_inverse 34 = .ok (.istore_n 2, 1) := by decide +kernel
theorem dX2_inverse_35 : decode cX2_inverse 35 = .ok (.iload_n 3, 1) := by decide +kernel
theorem dX2_inverse_36 : decode cX2_inverse 36 = .ok (.iconst 1, 1) := by decide +kernel
theorem dX2_inverse_37 : decode cX2_inverse 37 = .ok (.ishr, 1) := by decide +kernel
theorem dX2_inverse_38 : decode cX2_inverse 38 = .ok (.istore_n 3, 1) := by decide +kernel
theorem dX2_inverse_39 : decode cX2_inverse 39 = .ok (.goto (-31), 3) := by decide +kernel
theorem dX2_inverse_42 : decode cX2_inverse 42 = .ok (.iload_n 1, 1) := by decide +kernel
theorem dX2_inverse_43 : decode cX2_inverse 43 = .ok (.ireturn, 1) := by decide +kernel
theorem dX3_init_0 : decode cX3_init 0 = .ok (.aload_n 0, 1) := by decide +kernel
theorem dX3_init_1 : decode cX3_init 1 = .ok (.invokespecial 3, 3) := by decide +kernel
theorem dX3_init_4 : decode cX3_init 4 = .ok (.aload_n 0, 1) := by decide +kernel
theorem dX3_init_5 : decode cX3_init 5 = .ok (.bipush 16, 2) := by decide +kernel
theorem dX3_init_7 : decode cX3_init 7 = .ok (.bipush 9, 2) := by decide +kernel
theorem dX3_init_9 : decode cX3_init 9 = .ok (.multianewarray 9 2, 4) := by decide +kernel
theorem dX3_init_13 : decode cX3_init 13 = .ok (.putfield 11, 3) := by decide +kernel
theorem dX3_init_16 : decode cX3_init 16 = .ok (.aload_n 0, 1) := by decide +kernel
theorem dX3_init_17 : decode cX3_init 17 = .ok (.bipush 9, 2) := by decide +kernel
theorem dX3_init_19 : decode cX3_init 19 = .ok (.newarray .int, 2) := by decide +kernel
theorem dX3_init_21 : decode cX3_init 21 = .ok (.putfield 16, 3) := by decide +kernel
theorem dX3_init_24 : decode cX3_init 24 = .ok (.aload_n 0, 1) := by decide +kernel
theorem dX3_init_25 : decode cX3_init 25 = .ok (.iconst 0, 1) := by decide +kernel
theorem dX3_init_26 : decode cX3_init 26 = .ok (.putfield 20, 3) := by decide +kernel
theorem dX3_init_29 : decode cX3_init 29 = .ok (.aload_n 0, 1) := by decide +kernel
theorem dX3_init_30 : decode cX3_init 30 = .ok (.aload_n 1, 1) := by decide +kernel
theorem dX3_init_31 : decode cX3_init 31 = .ok (.putfield 24, 3) := by decide +kernel
theorem dX3_init_34 : decode cX3_init 34 = .ok (.return_, 1) := by decide +kernel
theorem dX3_toldG_0 : decode cX3_toldG 0 = .ok (.aload_n 0, 1) := by decide +kernel
theorem dX3_toldG_1 : decode cX3_toldG 1 = .ok (.getfield 11, 3) := by decide +kernel
theorem dX3_toldG_4 : decode cX3_toldG 4 = .ok (.iconst 0, 1) := by decide +kernel
theorem dX3_toldG_5 : decode cX3_toldG 5 = .ok (.aaload, 1) := by decide +kernel
theorem dX3_toldG_6 : decode cX3_toldG 6 = .ok (.areturn, 1) := by decide +kernel
theorem dX3_toldF_0 : decode cX3_toldF 0 = .ok (.aload_n 0, 1) := by decide +kernel
theorem dX3_toldF_1 : decode cX3_toldF 1 = .ok (.getfield 11, 3) := by decide +kernel
theorem dX3_toldF_4 : decode cX3_toldF 4 = .ok (.iconst 1, 1) := by decide +kernel
theorem dX3_toldF_5 : decode cX3_toldF 5 = .ok (.aaload, 1) := by decide +kernel
theorem dX3_toldF_6 : decode cX3_toldF 6 = .ok (.areturn, 1) := by decide +kernel
theorem dX3_reckon_0 : decode cX3_reckon 0 = .ok (.aload_n 0, 1) := by decide +kernel
theorem dX3_reckon_1 : decode cX3_reckon 1 = .ok (.iconst 0, 1) := by decide +kernel
theorem dX3_reckon_2 : decode cX3_reckon 2 = .ok (.putfield 20, 3) := by decide +kernel
theorem dX3_reckon_5 : decode cX3_reckon 5 = .ok (.iconst 0, 1) := by decide +kernel
theorem dX3_reckon_6 : decode cX3_reckon 6 = .ok (.istore_n 2, 1) := by decide +kernel
theorem dX3_reckon_7 : decode cX3_reckon 7 = .ok (.iload_n 2, 1) := by decide +kernel
theorem dX3_reckon_8 : decode cX3_reckon 8 = .ok (.aload_n 1, 1) := by decide +kernel
theorem dX3_reckon_9 : decode cX3_reckon 9 = .ok (.getfield 28, 3) := by decide +kernel
theorem dX3_reckon_12 : decode cX3_reckon 12 = .ok (.if_icmp .ge 30, 3) := by decide +kernel
theorem dX3_reckon_15 : decode cX3_reckon 15 = .ok (.aload_n 0, 1) := by decide +kernel
theorem dX3_reckon_16 : decode cX3_reckon 16 = .ok (.aload_n 1, 1) := by decide +kernel
theorem dX3_reckon_17 : decode cX3_reckon 17 = .ok (.getfield 33, 3) := by decide +kernel
theorem dX3_reckon_20 : decode cX3_reckon 20 = .ok (.iload_n 2, 1) := by decide +kernel
theorem dX3_reckon_21 : decode cX3_reckon 21 = .ok (.iaload, 1) := by decide +kernel
theorem dX3_reckon_22 : decode cX3_reckon 22 = .ok (.aload_n 1, 1) := by decide +kernel
theorem dX3_reckon_23 : decode cX3_reckon 23 = .ok (.getfield 36, 3) := by decide +kernel
theorem dX3_reckon_26 : decode cX3_reckon 26 = .ok (.iload_n 2, 1) := by decide +kernel
theorem dX3_reckon_27 : decode cX3_reckon 27 = .ok (.iaload, 1) := by decide +kernel
theorem dX3_reckon_28 : decode cX3_reckon 28 = .ok (.invokevirtual 39, 3) := by decide +kernel
theorem dX3_reckon_31 : decode cX3_reckon 31 = .ok (.ifCond .ne 5, 3) := by decide +kernel
theorem dX3_reckon_34 : decode cX3_reckon 34 = .ok (.iconst 0, 1) := by decide +kernel
theorem dX3_reckon_35 : decode cX3_reckon 35 = .ok (.ireturn, 1) := by decide +kernel
theorem dX3_reckon_36 : decode cX3_reckon 36 = .ok (.iinc 2 1, 3) := by decide +kernel
theorem dX3_reckon_39 : decode cX3_reckon 39 = .ok (.goto (-32), 3) := by decide +kernel
theorem dX3_reckon_42 : decode cX3_reckon 42 = .ok (.aload_n 0, 1) := by decide +kernel
theorem dX3_reckon_43 : decode cX3_reckon 43 = .ok (.getfield 20, 3) := by decide +kernel
theorem dX3_reckon_46 : decode cX3_reckon 46 = .ok (.iconst 2, 1) := by decide +kernel
theorem dX3_reckon_47 : decode cX3_reckon 47 = .ok (.if_icmp .ne 27, 3) := by decide +kernel
theorem dX3_reckon_50 : decode cX3_reckon 50 = .ok (.aload_n 0, 1) := by decide +kernel
theorem dX3_reckon_51 : decode cX3_reckon 51 = .ok (.invokevirtual 43, 3) := by decide +kernel
theorem dX3_reckon_54 : decode cX3_reckon 54 = .ok (.invokestatic 47, 3) := by decide +kernel
theorem dX3_reckon_57 : decode cX3_reckon 57 = .ok (.ifCond .eq 17, 3) := by decide +kernel
theorem dX3_reckon_60 : decode cX3_reckon 60 = .ok (.aload_n 0, 1) := by decide +kernel
theorem dX3_reckon_61 : decode cX3_reckon 61 = .ok (.invokevirtual 51, 3) := by decide +kernel
theorem dX3_reckon_64 : decode cX3_reckon 64 = .ok (.invokestatic 54, 3) := by decide +kernel
theorem dX3_reckon_67 : decode cX3_reckon 67 = .ok (.ifCond .eq 7, 3) := by decide +kernel
theorem dX3_reckon_70 : decode cX3_reckon 70 = .ok (.iconst 1, 1) := by decide +kernel
theorem dX3_reckon_71 : decode cX3_reckon 71 = .ok (.goto 4, 3) := by decide +kernel
theorem dX3_reckon_74 : decode cX3_reckon 74 = .ok (.iconst 0, 1) := by decide +kernel
theorem dX3_reckon_75 : decode cX3_reckon 75 = .ok (.ireturn, 1) := by decide +kernel
theorem dX3_goStep_0 : decode cX3_goStep 0 = .ok (.iload_n 1, 1) := by decide +kernel
theorem dX3_goStep_1 : decode cX3_goStep 1 = .ok (.lookupswitch 119 #[(42, 81), (43, 81), (45, 81), (47, 81), (48, 67), (94, 87), (116, 74)], 67) := by decide +kernel
theorem dX3_goStep_68 : decode cX3_goStep 68 = .ok (.aload_n 0, 1) := by decide +kernel
theorem dX3_goStep_69 : decode cX3_goStep 69 = .ok (.iconst 0, 1) := by decide +kernel
theorem dX3_goStep_70 : decode cX3_goStep 70 = .ok (.iload_n 2, 1) := by decide +kernel
theorem dX3_goStep_71 : decode cX3_goStep 71 = .ok (.invokevirtual 57, 3) := by decide +kernel
theorem dX3_goStep_74 : decode cX3_goStep 74 = .ok (.ireturn, 1) := by decide +kernel
theorem dX3_goStep_75 : decode cX3_goStep 75 = .ok (.aload_n 0, 1) := by decide +kernel
theorem dX3_goStep_76 : decode cX3_goStep 76 = .ok (.iconst 1, 1) := by decide +kernel
theorem dX3_goStep_77 : decode cX3_goStep 77 = .ok (.iconst 1, 1) := by decide +kernel
theorem dX3_goStep_78 : decode cX3_goStep 78 = .ok (.invokevirtual 57, 3) := by decide +kernel
theorem dX3_goStep_81 : decode cX3_goStep 81 = .ok (.ireturn, 1) := by decide +kernel
theorem dX3_goStep_82 : decode cX3_goStep 82 = .ok (.aload_n 0, 1) := by decide +kernel
theorem dX3_goStep_83 : decode cX3_goStep 83 = .ok (.iload_n 1, 1) := by decide +kernel
theorem dX3_goStep_84 : decode cX3_goStep 84 = .ok (.invokevirtual 60, 3) := by decide +kernel
theorem dX3_goStep_87 : decode cX3_goStep 87 = .ok (.ireturn, 1) := by decide +kernel
theorem dX3_goStep_88 : decode cX3_goStep 88 = .ok (.aload_n 0, 1) := by decide +kernel
theorem dX3_goStep_89 : decode cX3_goStep 89 = .ok (.getfield 20, 3) := by decide +kernel
theorem dX3_goStep_92 : decode cX3_goStep 92 = .ok (.ifCond .le 26, 3) := by decide +kernel
theorem dX3_goStep_95 : decode cX3_goStep 95 = .ok (.aload_n 0, 1) := by decide +kernel
theorem dX3_goStep_96 : decode cX3_goStep 96 = .ok (.aload_n 0, 1) := by decide +kernel
theorem dX3_goStep_97 : decode cX3_goStep 97 = .ok (.getfield 11, 3) := by decide +kernel
theorem dX3_goStep_100 : decode cX3_goStep 100 = .ok (.aload_n 0, 1) := by decide +kernel
theorem dX3_goStep_101 : decode cX3_goStep 101 = .ok (.getfield 20, 3) := by decide +kernel
theorem dX3_goStep_104 : decode cX3_goStep 104 = .ok (.iconst 1, 1) := by decide +kernel
theorem dX3_goStep_105 : decode cX3_goStep 105 = .ok (.isub, 1) := by decide +kernel
theorem dX3_goStep_106 : decode cX3_goStep 106 = .ok (.aaload, 1) := by decide +kernel
theorem dX3_goStep_107 : decode cX3_goStep 107 = .ok (.iload_n 2, 1) := by decide +kernel
theorem dX3_goStep_108 : decode cX3_goStep 108 = .ok (.invokevirtual 64, 3) := by decide +kernel
theorem dX3_goStep_111 : decode cX3_goStep 111 = .ok (.ifCond .eq 7, 3) := by decide +kernel
theorem dX3_goStep_114 : decode cX3_goStep 114 = .ok (.iconst 1, 1) := by decide +kernel
theorem dX3_goStep_115 : decode cX3_goStep 115 = .ok (.goto 4, 3) := by decide +kernel
theorem dX3_goStep_118 : decode cX3_goStep 118 = .ok (.iconst 0, 1) := by decide +kernel
theorem dX3_goStep_119 : decode cX3_goStep 119 = .ok (.ireturn, 1) := by decide +kernel
theorem dX3_goStep_120 : decode cX3_goStep 120 = .ok (.aload_n 0, 1) := by decide +kernel
theorem dX3_goStep_121 : decode cX3_goStep 121 = .ok (.getfield 20, 3) := by decide +kernel
theorem dX3_goStep_124 : decode cX3_goStep 124 = .ok (.ifCond .le 26, 3) := by decide +kernel
theorem dX3_goStep_127 : decode cX3_goStep 127 = .ok (.aload_n 0, 1) := by decide +kernel
theorem dX3_goStep_128 : decode cX3_goStep 128 = .ok (.iload_n 1, 1) := by decide +kernel
theorem dX3_goStep_129 : decode cX3_goStep 129 = .ok (.aload_n 0, 1) := by decide +kernel
theorem dX3_goStep_130 : decode cX3_goStep 130 = .ok (.getfield 11, 3) := by decide +kernel
theorem dX3_goStep_133 : decode cX3_goStep 133 = .ok (.aload_n 0, 1) := by decide +kernel
theorem dX3_goStep_134 : decode cX3_goStep 134 = .ok (.getfield 20, 3) := by decide +kernel
theorem dX3_goStep_137 : decode cX3_goStep 137 = .ok (.iconst 1, 1) := by decide +kernel
theorem dX3_goStep_138 : decode cX3_goStep 138 = .ok (.isub, 1) := by decide +kernel
theorem dX3_goStep_139 : decode cX3_goStep 139 = .ok (.aaload, 1) := by decide +kernel
theorem dX3_goStep_140 : decode cX3_goStep 140 = .ok (.invokevirtual 68, 3) := by decide +kernel
theorem dX3_goStep_143 : decode cX3_goStep 143 = .ok (.ifCond .eq 7, 3) := by decide +kernel
theorem dX3_goStep_146 : decode cX3_goStep 146 = .ok (.iconst 1, 1) := by decide +kernel
theorem dX3_goStep_147 : decode cX3_goStep 147 = .ok (.goto 4, 3) := by decide +kernel
theorem dX3_goStep_150 : decode cX3_goStep 150 = .ok (.iconst 0, 1) := by decide +kernel
theorem dX3_goStep_151 : decode cX3_goStep 151 = .ok (.ireturn, 1) := by decide +kernel
theorem dX3_pushMonomial_0 : decode cX3_pushMonomial 0 = .ok (.aload_n 0, 1) := by decide +kernel
theorem dX3_pushMonomial_1 : decode cX3_pushMonomial 1 = .ok (.getfield 20, 3) := by decide +kernel
theorem dX3_pushMonomial_4 : decode cX3_pushMonomial 4 = .ok (.bipush 16, 2) := by decide +kernel
theorem dX3_pushMonomial_6 : decode cX3_pushMonomial 6 = .ok (.if_icmp .lt 5, 3) := by decide +kernel
theorem dX3_pushMonomial_9 : decode cX3_pushMonomial 9 = .ok (.iconst 0, 1) := by decide +kernel
theorem dX3_pushMonomial_10 : decode cX3_pushMonomial 10 = .ok (.ireturn, 1) := by decide +kernel
theorem dX3_pushMonomial_11 : decode cX3_pushMonomial 11 = .ok (.aload_n 0, 1) := by decide +kernel
theorem dX3_pushMonomial_12 : decode cX3_pushMonomial 12 = .ok (.getfield 11, 3) := by decide +kernel
theorem dX3_pushMonomial_15 : decode cX3_pushMonomial 15 = .ok (.aload_n 0, 1) := by decide +kernel
theorem dX3_pushMonomial_16 : decode cX3_pushMonomial 16 = .ok (.getfield 20, 3) := by decide +kernel
theorem dX3_pushMonomial_19 : decode cX3_pushMonomial 19 = .ok (.aaload, 1) := by decide +kernel
theorem dX3_pushMonomial_20 : decode cX3_pushMonomial 20 = .ok (.iload_n 1, 1) := by decide +kernel
theorem dX3_pushMonomial_21 : decode cX3_pushMonomial 21 = .ok (.iload_n 2, 1) := by decide +kernel
theorem dX3_pushMonomial_22 : decode cX3_pushMonomial 22 = .ok (.invokestatic 72, 3) := by decide +kernel
theorem dX3_pushMonomial_25 : decode cX3_pushMonomial 25 = .ok (.aload_n 0, 1) := by decide +kernel
theorem dX3_pushMonomial_26 : decode cX3_pushMonomial 26 = .ok (.dup, 1) := by decide +kernel
theorem dX3_pushMonomial_27 : decode cX3_pushMonomial 27 = .ok (.getfield 20, 3) := by decide +kernel
theorem dX3_pushMonomial_30 : decode cX3_pushMonomial 30 = .ok (.iconst 1, 1) := by decide +kernel
theorem dX3_pushMonomial_31 : decode cX3_pushMonomial 31 = .ok (.iadd, 1) := by decide +kernel
theorem dX3_pushMonomial_32 : decode cX3_pushMonomial 32 = .ok (.putfield 20, 3) := by decide +kernel
theorem dX3_pushMonomial_35 : decode cX3_pushMonomial 35 = .ok (.iconst 1, 1) := by decide +kernel
theorem dX3_pushMonomial_36 : decode cX3_pushMonomial 36 = .ok (.ireturn, 1) := by decide +kernel
theorem dX3_joinTwo_0 : decode cX3_joinTwo 0 = .ok (.aload_n 0, 1) := by decide +kernel
theorem dX3_joinTwo_1 : decode cX3_joinTwo 1 = .ok (.getfield 20, 3) := by decide +kernel
theorem dX3_joinTwo_4 : decode cX3_joinTwo 4 = .ok (.iconst 2, 1) := by decide +kernel
theorem dX3_joinTwo_5 : decode cX3_joinTwo 5 = .ok (.if_icmp .ge 5, 3) := by decide +kernel
theorem dX3_joinTwo_8 : decode cX3_joinTwo 8 = .ok (.iconst 0, 1) := by decide +kernel
theorem dX3_joinTwo_9 : decode cX3_joinTwo 9 = .ok (.ireturn, 1) := by decide +kernel
theorem dX3_joinTwo_10 : decode cX3_joinTwo 10 = .ok (.aload_n 0, 1) := by decide +kernel
theorem dX3_joinTwo_11 : decode cX3_joinTwo 11 = .ok (.dup, 1) := by decide +kernel
theorem dX3_joinTwo_12 : decode cX3_joinTwo 12 = .ok (.getfield 20, 3) := by decide +kernel
theorem dX3_joinTwo_15 : decode cX3_joinTwo 15 = .ok (.iconst 1, 1) := by decide +kernel
theorem dX3_joinTwo_16 : decode cX3_joinTwo 16 = .ok (.isub, 1) := by decide +kernel
theorem dX3_joinTwo_17 : decode cX3_joinTwo 17 = .ok (.putfield 20, 3) := by decide +kernel
theorem dX3_joinTwo_20 : decode cX3_joinTwo 20 = .ok (.aload_n 0, 1) := by decide +kernel
theorem dX3_joinTwo_21 : decode cX3_joinTwo 21 = .ok (.getfield 11, 3) := by decide +kernel
theorem dX3_joinTwo_24 : decode cX3_joinTwo 24 = .ok (.aload_n 0, 1) := by decide +kernel
theorem dX3_joinTwo_25 : decode cX3_joinTwo 25 = .ok (.getfield 20, 3) := by decide +kernel
theorem dX3_joinTwo_28 : decode cX3_joinTwo 28 = .ok (.iconst 1, 1) := by decide +kernel
theorem dX3_joinTwo_29 : decode cX3_joinTwo 29 = .ok (.isub, 1) := by decide +kernel
theorem dX3_joinTwo_30 : decode cX3_joinTwo 30 = .ok (.aaload, 1) := by decide +kernel
theorem dX3_joinTwo_31 : decode cX3_joinTwo 31 = .ok (.astore_n 2, 1) := by decide +kernel
theorem dX3_joinTwo_32 : decode cX3_joinTwo 32 = .ok (.aload_n 0, 1) := by decide +kernel
theorem dX3_joinTwo_33 : decode cX3_joinTwo 33 = .ok (.getfield 11, 3) := by decide +kernel
theorem dX3_joinTwo_36 : decode cX3_joinTwo 36 = .ok (.aload_n 0, 1) := by decide +kernel
theorem dX3_joinTwo_37 : decode cX3_joinTwo 37 = .ok (.getfield 20, 3) := by decide +kernel
theorem dX3_joinTwo_40 : decode cX3_joinTwo 40 = .ok (.aaload, 1) := by decide +kernel
theorem dX3_joinTwo_41 : decode cX3_joinTwo 41 = .ok (.astore_n 3, 1) := by decide +kernel
theorem dX3_joinTwo_42 : decode cX3_joinTwo 42 = .ok (.iload_n 1, 1) := by decide +kernel
theorem dX3_joinTwo_43 : decode cX3_joinTwo 43 = .ok (.bipush 47, 2) := by decide +kernel
theorem dX3_joinTwo_45 : decode cX3_joinTwo 45 = .ok (.if_icmp .ne 12, 3) := by decide +kernel
theorem dX3_joinTwo_48 : decode cX3_joinTwo 48 = .ok (.aload_n 3, 1) := by decide +kernel
theorem dX3_joinTwo_49 : decode cX3_joinTwo 49 = .ok (.invokestatic 47, 3) := by decide +kernel
theorem dX3_joinTwo_52 : decode cX3_joinTwo 52 = .ok (.ifCond .ne 5, 3) := by decide +kernel
theorem dX3_joinTwo_55 : decode cX3_joinTwo 55 = .ok (.iconst 0, 1) := by decide +kernel
theorem dX3_joinTwo_56 : decode cX3_joinTwo 56 = .ok (.ireturn, 1) := by decide +kernel
theorem dX3_joinTwo_57 : decode cX3_joinTwo 57 = .ok (.iload_n 1, 1) := by decide +kernel
theorem dX3_joinTwo_58 : decode cX3_joinTwo 58 = .ok (.tableswitch 63 42 45 #[50, 30, 63, 39], 30) := by decide +kernel
theorem dX3_joinTwo_88 : decode cX3_joinTwo 88 = .ok (.aload_n 2, 1) := by decide +kernel
theorem dX3_joinTwo_89 : decode cX3_joinTwo 89 = .ok (.aload_n 3, 1) := by decide +kernel
theorem dX3_joinTwo_90 : decode cX3_joinTwo 90 = .ok (.iconst 1, 1) := by decide +kernel
theorem dX3_joinTwo_91 : decode cX3_joinTwo 91 = .ok (.invokestatic 76, 3) := by decide +kernel
theorem dX3_joinTwo_94 : decode cX3_joinTwo 94 = .ok (.goto 37, 3) := by decide +kernel
theorem dX3_joinTwo_97 : decode cX3_joinTwo 97 = .ok (.aload_n 2, 1) := by decide +kernel
theorem dX3_joinTwo_98 : decode cX3_joinTwo 98 = .ok (.aload_n 3, 1) := by decide +kernel
theorem dX3_joinTwo_99 : decode cX3_joinTwo 99 = .ok (.sipush 9972, 3) := by decide +kernel
theorem dX3_joinTwo_102 : decode cX3_joinTwo 102 = .ok (.invokestatic 76, 3) := by decide +kernel
theorem dX3_joinTwo_105 : decode cX3_joinTwo 105 = .ok (.goto 26, 3) := by decide +kernel
theorem dX3_joinTwo_108 : decode cX3_joinTwo 108 = .ok (.aload_n 0, 1) := by decide +kernel
theorem dX3_joinTwo_109 : decode cX3_joinTwo 109 = .ok (.getfield 24, 3) := by decide +kernel
theorem dX3_joinTwo_112 : decode cX3_joinTwo 112 = .ok (.aload_n 2, 1) := by decide +kernel
theorem dX3_joinTwo_113 : decode cX3_joinTwo 113 = .ok (.aload_n 2, 1) := by decide +kernel
theorem dX3_joinTwo_114 : decode cX3_joinTwo 114 = .ok (.aload_n 3, 1) := by decide +kernel
theorem dX3_joinTwo_115 : decode cX3_joinTwo 115 = .ok (.invokevirtual 80, 3) := by decide +kernel
theorem dX3_joinTwo_118 : decode cX3_joinTwo 118 = .ok (.goto 13, 3) := by decide +kernel
theorem dX3_joinTwo_121 : decode cX3_joinTwo 121 = .ok (.aload_n 0, 1) := by decide +kernel
theorem dX3_joinTwo_122 : decode cX3_joinTwo 122 = .ok (.getfield 24, 3) := by decide +kernel
theorem dX3_joinTwo_125 : decode cX3_joinTwo 125 = .ok (.aload_n 2, 1) := by decide +kernel
theorem dX3_joinTwo_126 : decode cX3_joinTwo 126 = .ok (.aload_n 2, 1) := by decide +kernel
theorem dX3_joinTwo_127 : decode cX3_joinTwo 127 = .ok (.aload_n 3, 1) := by decide +kernel
theorem dX3_joinTwo_128 : decode cX3_joinTwo 128 = .ok (.invokevirtual 86, 3) := by decide +kernel
theorem dX3_joinTwo_131 : decode cX3_joinTwo 131 = .ok (.iconst 1, 1) := by decide +kernel
theorem dX3_joinTwo_132 : decode cX3_joinTwo 132 = .ok (.ireturn, 1) := by decide +kernel
theorem dX3_toPower_0 : decode cX3_toPower 0 = .ok (.aload_n 1, 1) := by decide +kernel
theorem dX3_toPower_1 : decode cX3_toPower 1 = .ok (.aload_n 0, 1) := by decide +kernel
theorem dX3_toPower_2 : decode cX3_toPower 2 = .ok (.getfield 16, 3) := by decide +kernel
theorem dX3_toPower_5 : decode cX3_toPower 5 = .ok (.invokestatic 89, 3) := by decide +kernel
theorem dX3_toPower_8 : decode cX3_toPower 8 = .ok (.aload_n 1, 1) := by decide +kernel
theorem dX3_toPower_9 : decode cX3_toPower 9 = .ok (.iconst 0, 1) := by decide +kernel
theorem dX3_toPower_10 : decode cX3_toPower 10 = .ok (.iconst 1, 1) := by decide +kernel
theorem dX3_toPower_11 : decode cX3_toPower 11 = .ok (.invokestatic 72, 3) := by decide +kernel
theorem dX3_toPower_14 : decode cX3_toPower 14 = .ok (.iconst 0, 1) := by decide +kernel
theorem dX3_toPower_15 : decode cX3_toPower 15 = .ok (.istore_n 3, 1) := by decide +kernel
theorem dX3_toPower_16 : decode cX3_toPower 16 = .ok (.iload_n 3, 1) := by decide +kernel
theorem dX3_toPower_17 : decode cX3_toPower 17 = .ok (.iload_n 2, 1) := by decide +kernel
theorem dX3_toPower_18 : decode cX3_toPower 18 = .ok (.if_icmp .ge 22, 3) := by decide +kernel
theorem dX3_toPower_21 : decode cX3_toPower 21 = .ok (.aload_n 0, 1) := by decide +kernel
theorem dX3_toPower_22 : decode cX3_toPower 22 = .ok (.getfield 24, 3) := by decide +kernel
theorem dX3_toPower_25 : decode cX3_toPower 25 = .ok (.aload_n 1, 1) := by decide +kernel
theorem dX3_toPower_26 : decode cX3_toPower 26 = .ok (.aload_n 1, 1) := by decide +kernel
theorem dX3_toPower_27 : decode cX3_toPower 27 = .ok (.aload_n 0, 1) := by decide +kernel
theorem dX3_toPower_28 : decode cX3_toPower 28 = .ok (.getfield 16, 3) := by decide +kernel
theorem dX3_toPower_31 : decode cX3_toPower 31 = .ok (.invokevirtual 80, 3) := by decide +kernel
theorem dX3_toPower_34 : decode cX3_toPower 34 = .ok (.iinc 3 1, 3) := by decide +kernel
theorem dX3_toPower_37 : decode cX3_toPower 37 = .ok (.goto (-21), 3) := by decide +kernel
theorem dX3_toPower_40 : decode cX3_toPower 40 = .ok (.iconst 1, 1) := by decide +kernel
theorem dX3_toPower_41 : decode cX3_toPower 41 = .ok (.ireturn, 1) := by decide +kernel
theorem dX3_turn_0 : decode cX3_turn 0 = .ok (.iload_n 1, 1) := by decide +kernel
theorem dX3_turn_1 : decode cX3_turn 1 = .ok (.bipush 105, 2) := by decide +kernel
theorem dX3_turn_3 : decode cX3_turn 3 = .ok (.if_icmp .ne 23, 3) := by decide +kernel
theorem dX3_turn_6 : decode cX3_turn 6 = .ok (.aload_n 2, 1) := by decide +kernel
theorem dX3_turn_7 : decode cX3_turn 7 = .ok (.invokestatic 54, 3) := by decide +kernel
theorem dX3_turn_10 : decode cX3_turn 10 = .ok (.ifCond .ne 5, 3) := by decide +kernel
theorem dX3_turn_13 : decode cX3_turn 13 = .ok (.iconst 0, 1) := by decide +kernel
theorem dX3_turn_14 : decode cX3_turn 14 = .ok (.ireturn, 1) := by decide +kernel
theorem dX3_turn_15 : decode cX3_turn 15 = .ok (.aload_n 0, 1) := by decide +kernel
theorem dX3_turn_16 : decode cX3_turn 16 = .ok (.getfield 24, 3) := by decide +kernel
theorem dX3_turn_19 : decode cX3_turn 19 = .ok (.aload_n 2, 1) := by decide +kernel
theorem dX3_turn_20 : decode cX3_turn 20 = .ok (.aload_n 2, 1) := by decide +kernel
theorem dX3_turn_21 : decode cX3_turn 21 = .ok (.invokevirtual 93, 3) := by decide +kernel
theorem dX3_turn_24 : decode cX3_turn 24 = .ok (.iconst 1, 1) := by decide +kernel
theorem dX3_turn_25 : decode cX3_turn 25 = .ok (.ireturn, 1) := by decide +kernel
theorem dX3_turn_26 : decode cX3_turn 26 = .ok (.aload_n 2, 1) := by decide +kernel
theorem dX3_turn_27 : decode cX3_turn 27 = .ok (.iconst 0, 1) := by decide +kernel
theorem dX3_turn_28 : decode cX3_turn 28 = .ok (.iaload, 1) := by decide +kernel
theorem dX3_turn_29 : decode cX3_turn 29 = .ok (.ifCond .eq 5, 3) := by decide +kernel
theorem dX3_turn_32 : decode cX3_turn 32 = .ok (.iconst 0, 1) := by decide +kernel
theorem dX3_turn_33 : decode cX3_turn 33 = .ok (.ireturn, 1) := by decide +kernel
theorem dX3_turn_34 : decode cX3_turn 34 = .ok (.aload_n 0, 1) := by decide +kernel
theorem dX3_turn_35 : decode cX3_turn 35 = .ok (.getfield 24, 3) := by decide +kernel
theorem dX3_turn_38 : decode cX3_turn 38 = .ok (.aload_n 2, 1) := by decide +kernel
theorem dX3_turn_39 : decode cX3_turn 39 = .ok (.aload_n 0, 1) := by decide +kernel
theorem dX3_turn_40 : decode cX3_turn 40 = .ok (.iload_n 1, 1) := by decide +kernel
theorem dX3_turn_41 : decode cX3_turn 41 = .ok (.invokevirtual 96, 3) := by decide +kernel
theorem dX3_turn_44 : decode cX3_turn 44 = .ok (.aload_n 2, 1) := by decide +kernel
theorem dX3_turn_45 : decode cX3_turn 45 = .ok (.invokevirtual 100, 3) := by decide +kernel
theorem dX3_turn_48 : decode cX3_turn 48 = .ok (.iconst 1, 1) := by decide +kernel
theorem dX3_turn_49 : decode cX3_turn 49 = .ok (.ireturn, 1) := by decide +kernel
theorem dX3_seriesOf_0 : decode cX3_seriesOf 0 = .ok (.iload_n 1, 1) := by decide +kernel
theorem dX3_seriesOf_1 : decode cX3_seriesOf 1 = .ok (.lookupswitch 43 #[(101, 27), (113, 35)], 27) := by decide +kernel
theorem dX3_seriesOf_28 : decode cX3_seriesOf 28 = .ok (.aload_n 0, 1) := by decide +kernel
theorem dX3_seriesOf_29 : decode cX3_seriesOf 29 = .ok (.getfield 24, 3) := by decide +kernel
theorem dX3_seriesOf_32 : decode cX3_seriesOf 32 = .ok (.getfield 103, 3) := by decide +kernel
theorem dX3_seriesOf_35 : decode cX3_seriesOf 35 = .ok (.areturn, 1) := by decide +kernel
theorem dX3_seriesOf_36 : decode cX3_seriesOf 36 = .ok (.aload_n 0, 1) := by decide +kernel
theorem dX3_seriesOf_37 : decode cX3_seriesOf 37 = .ok (.getfield 24, 3) := by decide +kernel
theorem dX3_seriesOf_40 : decode cX3_seriesOf 40 = .ok (.getfield 106, 3) := by decide +kernel
theorem dX3_seriesOf_43 : decode cX3_seriesOf 43 = .ok (.areturn, 1) := by decide +kernel
theorem dX3_seriesOf_44 : decode cX3_seriesOf 44 = .ok (.aload_n 0, 1) := by decide +kernel
theorem dX3_seriesOf_45 : decode cX3_seriesOf 45 = .ok (.getfield 24, 3) := by decide +kernel
theorem dX3_seriesOf_48 : decode cX3_seriesOf 48 = .ok (.getfield 109, 3) := by decide +kernel
theorem dX3_seriesOf_51 : decode cX3_seriesOf 51 = .ok (.areturn, 1) := by decide +kernel
theorem dX3_isUnit_0 : decode cX3_isUnit 0 = .ok (.aload_n 0, 1) := by decide +kernel
theorem dX3_isUnit_1 : decode cX3_isUnit 1 = .ok (.iconst 0, 1) := by decide +kernel
theorem dX3_isUnit_2 : decode cX3_isUnit 2 = .ok (.iaload, 1) := by decide +kernel
theorem dX3_isUnit_3 : decode cX3_isUnit 3 = .ok (.ifCond .eq 7, 3) := by decide +kernel
theorem dX3_isUnit_6 : decode cX3_isUnit 6 = .ok (.iconst 1, 1) := by decide +kernel
theorem dX3_isUnit_7 : decode cX3_isUnit 7 = .ok (.goto 4, 3) := by decide +kernel
theorem dX3_isUnit_10 : decode cX3_isUnit 10 = .ok (.iconst 0, 1) := by decide +kernel
theorem dX3_isUnit_11 : decode cX3_isUnit 11 = .ok (.ireturn, 1) := by decide +kernel
theorem dX3_isDelta_0 : decode cX3_isDelta 0 = .ok (.aload_n 0, 1) := by decide +kernel
theorem dX3_isDelta_1 : decode cX3_isDelta 1 = .ok (.iconst 0, 1) := by decide +kernel
theorem dX3_isDelta_2 : decode cX3_isDelta 2 = .ok (.iaload, 1) := by decide +kernel
theorem dX3_isDelta_3 : decode cX3_isDelta 3 = .ok (.ifCond .ne 13, 3) := by decide +kernel
theorem dX3_isDelta_6 : decode cX3_isDelta 6 = .ok (.aload_n 0, 1) := by decide +kernel
theorem dX3_isDelta_7 : decode cX3_isDelta 7 = .ok (.iconst 1, 1) := by decide +kernel
theorem dX3_isDelta_8 : decode cX3_isDelta 8 = .ok (.iaload, 1) := by decide +kernel
theorem dX3_isDelta_9 : decode cX3_isDelta 9 = .ok (.ifCond .eq 7, 3) := by decide +kernel
theorem dX3_isDelta_12 : decode cX3_isDelta 12 = .ok (.iconst 1, 1) := by decide +kernel
theorem dX3_isDelta_13 : decode cX3_isDelta 13 = .ok (.goto 4, 3) := by decide +kernel
theorem dX3_isDelta_16 : decode cX3_isDelta 16 = .ok (.iconst 0, 1) := by decide +kernel
theorem dX3_isDelta_17 : decode cX3_isDelta 17 = .ok (.ireturn, 1) := by decide +kernel
theorem dX4_init_0 : decode cX4_init 0 = .ok (.aload_n 0, 1) := by decide +kernel
theorem dX4_init_1 : decode cX4_init 1 = .ok (.invokespecial 3, 3) := by decide +kernel
theorem dX4_init_4 : decode cX4_init 4 = .ok (.aload_n 0, 1) := by decide +kernel
theorem dX4_init_5 : decode cX4_init 5 = .ok (.bipush 9, 2) := by decide +kernel
theorem dX4_init_7 : decode cX4_init 7 = .ok (.newarray .int, 2) := by decide +kernel
theorem dX4_init_9 : decode cX4_init 9 = .ok (.putfield 9, 3) := by decide +kernel
theorem dX4_init_12 : decode cX4_init 12 = .ok (.aload_n 0, 1) := by decide +kernel
theorem dX4_init_13 : decode cX4_init 13 = .ok (.bipush 9, 2) := by decide +kernel
theorem dX4_init_15 : decode cX4_init 15 = .ok (.newarray .int, 2) := by decide +kernel
theorem dX4_init_17 : decode cX4_init 17 = .ok (.putfield 15, 3) := by decide +kernel
theorem dX4_init_20 : decode cX4_init 20 = .ok (.aload_n 0, 1) := by decide +kernel
theorem dX4_init_21 : decode cX4_init 21 = .ok (.bipush 9, 2) := by decide +kernel
theorem dX4_init_23 : decode cX4_init 23 = .ok (.newarray .int, 2) := by decide +kernel
theorem dX4_init_25 : decode cX4_init 25 = .ok (.putfield 18, 3) := by decide +kernel
theorem dX4_init_28 : decode cX4_init 28 = .ok (.aload_n 0, 1) := by decide +kernel
theorem dX4_init_29 : decode cX4_init 29 = .ok (.bipush 9, 2) := by decide +kernel
theorem dX4_init_31 : decode cX4_init 31 = .ok (.newarray .int, 2) := by decide +kernel
theorem dX4_init_33 : decode cX4_init 33 = .ok (.putfield 21, 3) := by decide +kernel
theorem dX4_init_36 : decode cX4_init 36 = .ok (.aload_n 0, 1) := by decide +kernel
theorem dX4_init_37 : decode cX4_init 37 = .ok (.bipush 9, 2) := by decide +kernel
theorem dX4_init_39 : decode cX4_init 39 = .ok (.newarray .int, 2) := by decide +kernel
theorem dX4_init_41 : decode cX4_init 41 = .ok (.putfield 24, 3) := by decide +kernel
theorem dX4_init_44 : decode cX4_init 44 = .ok (.aload_n 0, 1) := by decide +kernel
theorem dX4_init_45 : decode cX4_init 45 = .ok (.bipush 9, 2) := by decide +kernel
theorem dX4_init_47 : decode cX4_init 47 = .ok (.newarray .int, 2) := by decide +kernel
theorem dX4_init_49 : decode cX4_init 49 = .ok (.putfield 27, 3) := by decide +kernel
theorem dX4_init_52 : decode cX4_init 52 = .ok (.aload_n 0, 1) := by decide +kernel
theorem dX4_init_53 : decode cX4_init 53 = .ok (.bipush 9, 2) := by decide +kernel
theorem dX4_init_55 : decode cX4_init 55 = .ok (.newarray .int, 2) := by decide +kernel
theorem dX4_init_57 : decode cX4_init 57 = .ok (.putfield 30, 3) := by decide +kernel
theorem dX4_init_60 : decode cX4_init 60 = .ok (.aload_n 0, 1) := by decide +kernel
theorem dX4_init_61 : decode cX4_init 61 = .ok (.bipush 9, 2) := by decide +kernel
theorem dX4_init_63 : decode cX4_init 63 = .ok (.newarray .int, 2) := by decide +kernel
theorem dX4_init_65 : decode cX4_init 65 = .ok (.putfield 33, 3) := by decide +kernel
theorem dX4_init_68 : decode cX4_init 68 = .ok (.iconst 1, 1) := by decide +kernel
theorem dX4_init_69 : decode cX4_init 69 = .ok (.istore_n 1, 1) := by decide +kernel
theorem dX4_init_70 : decode cX4_init 70 = .ok (.iconst 0, 1) := by decide +kernel
theorem dX4_init_71 : decode cX4_init 71 = .ok (.istore_n 2, 1) := by decide +kernel
theorem dX4_init_72 : decode cX4_init 72 = .ok (.iload_n 2, 1) := by decide +kernel
theorem dX4_init_73 : decode cX4_init 73 = .ok (.bipush 9, 2) := by decide +kernel
theorem dX4_init_75 : decode cX4_init 75 = .ok (.if_icmp .ge 71, 3) := by decide +kernel
theorem dX4_init_78 : decode cX4_init 78 = .ok (.aload_n 0, 1) := by decide +kernel
theorem dX4_init_79 : decode cX4_init 79 = .ok (.getfield 21, 3) := by decide +kernel
theorem dX4_init_82 : decode cX4_init 82 = .ok (.iload_n 2, 1) := by decide +kernel
theorem dX4_init_83 : decode cX4_init 83 = .ok (.iload_n 1, 1) := by decide +kernel
theorem dX4_init_84 : decode cX4_init 84 = .ok (.iastore, 1) := by decide +kernel
theorem dX4_init_85 : decode cX4_init 85 = .ok (.aload_n 0, 1) := by decide +kernel
theorem dX4_init_86 : decode cX4_init 86 = .ok (.getfield 9, 3) := by decide +kernel
theorem dX4_init_89 : decode cX4_init 89 = .ok (.iload_n 2, 1) := by decide +kernel
theorem dX4_init_90 : decode cX4_init 90 = .ok (.iload_n 1, 1) := by decide +kernel
theorem dX4_init_91 : decode cX4_init 91 = .ok (.invokestatic 36, 3) := by decide +kernel
theorem dX4_init_94 : decode cX4_init 94 = .ok (.iastore, 1) := by decide +kernel
theorem dX4_init_95 : decode cX4_init 95 = .ok (.iload_n 1, 1) := by decide +kernel
theorem dX4_init_96 : decode cX4_init 96 = .ok (.iload_n 2, 1) := by decide +kernel
theorem dX4_init_97 : decode cX4_init 97 = .ok (.iconst 1, 1) := by decide +kernel
theorem dX4_init_98 : decode cX4_init 98 = .ok (.iadd, 1) := by decide +kernel
theorem dX4_init_99 : decode cX4_init 99 = .ok (.invokestatic 42, 3) := by decide +kernel
theorem dX4_init_102 : decode cX4_init 102 = .ok (.istore_n 1, 1) := by decide +kernel
theorem dX4_init_103 : decode cX4_init 103 = .ok (.aload_n 0, 1) := by decide +kernel
theorem dX4_init_104 : decode cX4_init 104 = .ok (.getfield 15, 3) := by decide +kernel
theorem dX4_init_107 : decode cX4_init 107 = .ok (.iload_n 2, 1) := by decide +kernel
theorem dX4_init_108 : decode cX4_init 108 = .ok (.iload_n 1, 1) := by decide +kernel
theorem dX4_init_109 : decode cX4_init 109 = .ok (.invokestatic 36, 3) := by decide +kernel
theorem dX4_init_112 : decode cX4_init 112 = .ok (.iastore, 1) := by decide +kernel
theorem dX4_init_113 : decode cX4_init 113 = .ok (.iload_n 2, 1) := by decide +kernel
theorem dX4_init_114 : decode cX4_init 114 = .ok (.invokestatic 36, 3) := by decide +kernel
theorem dX4_init_117 : decode cX4_init 117 = .ok (.istore_n 3, 1) := by decide +kernel
theorem dX4_init_118 : decode cX4_init 118 = .ok (.aload_n 0, 1) := by decide +kernel
theorem dX4_init_119 : decode cX4_init 119 = .ok (.getfield 18, 3) := by decide +kernel
theorem dX4_init_122 : decode cX4_init 122 = .ok (.iload_n 2, 1) := by decide +kernel
theorem dX4_init_123 : decode cX4_init 123 = .ok (.iload_n 2, 1) := by decide +kernel
theorem dX4_init_124 : decode cX4_init 124 = .ok (.iconst 2, 1) := by decide +kernel
theorem dX4_init_125 : decode cX4_init 125 = .ok (.irem, 1) := by decide +kernel
theorem dX4_init_126 : decode cX4_init 126 = .ok (.iconst 1, 1) := by decide +kernel
theorem dX4_init_127 : decode cX4_init 127 = .ok (.if_icmp .ne 7, 3) := by decide +kernel
theorem dX4_init_130 : decode cX4_init 130 = .ok (.iload_n 3, 1) := by decide +kernel
theorem dX4_init_131 : decode cX4_init 131 = .ok (.goto 8, 3) := by decide +kernel
theorem dX4_init_134 : decode cX4_init 134 = .ok (.iconst 0, 1) := by decide +kernel
theorem dX4_init_135 : decode cX4_init 135 = .ok (.iload_n 3, 1) := by decide +kernel
theorem dX4_init_136 : decode cX4_init 136 = .ok (.invokestatic 46, 3) := by decide +kernel
theorem dX4_init_139 : decode cX4_init 139 = .ok (.iastore, 1) := by decide +kernel
theorem dX4_init_140 : decode cX4_init 140 = .ok (.iinc 2 1, 3) := by decide +kernel
theorem dX4_init_143 : decode cX4_init 143 = .ok (.goto (-71), 3) := by decide +kernel
theorem dX4_init_146 : decode cX4_init 146 = .ok (.return_, 1) := by decide +kernel
theorem dX4_multiply_0 : decode cX4_multiply 0 = .ok (.bipush 8, 2) := by decide +kernel
theorem dX4_multiply_2 : decode cX4_multiply 2 = .ok (.istore 4, 2) := by decide +kernel
theorem dX4_multiply_4 : decode cX4_multiply 4 = .ok (.iload 4, 2) := by decide +kernel
theorem dX4_multiply_6 : decode cX4_multiply 6 = .ok (.ifCond .lt 55, 3) := by decide +kernel
theorem dX4_multiply_9 : decode cX4_multiply 9 = .ok (.iconst 0, 1) := by decide +kernel
theorem dX4_multiply_10 : decode cX4_multiply 10 = .ok (.istore 5, 2) := by decide +kernel
theorem dX4_multiply_12 : decode cX4_multiply 12 = .ok (.iconst 0, 1) := by decide +kernel
theorem dX4_multiply_13 : decode cX4_multiply 13 = .ok (.istore 6, 2) := by decide +kernel
theorem dX4_multiply_15 : decode cX4_multiply 15 = .ok (.iload 6, 2) := by decide +kernel
theorem dX4_multiply_17 : decode cX4_multiply 17 = .ok (.iload 4, 2) := by decide +kernel
theorem dX4_multiply_19 : decode cX4_multiply 19 = .ok (.if_icmp .gt 30, 3) := by decide +kernel
theorem dX4_multiply_22 : decode cX4_multiply 22 = .ok (.iload 5, 2) := by decide +kernel
theorem dX4_multiply_24 : decode cX4_multiply 24 = .ok (.aload_n 2, 1) := by decide +kernel
theorem dX4_multiply_25 : decode cX4_multiply 25 = .ok (.iload 6, 2) := by decide +kernel
theorem dX4_multiply_27 : decode cX4_multiply 27 = .ok (.iaload, 1) := by decide +kernel
theorem dX4_multiply_28 : decode cX4_multiply 28 = .ok (.aload_n 3, 1) := by decide +kernel
theorem dX4_multiply_29 : decode cX4_multiply 29 = .ok (.iload 4, 2) := by decide +kernel
theorem dX4_multiply_31 : decode cX4_multiply 31 = .ok (.iload 6, 2) := by decide +kernel
theorem dX4_multiply_33 : decode cX4_multiply 33 = .ok (.isub, 1) := by decide +kernel
theorem dX4_multiply_34 : decode cX4_multiply 34 = .ok (.iaload, 1) := by decide +kernel
theorem dX4_multiply_35 : decode cX4_multiply 35 = .ok (.invokestatic 42, 3) := by decide +kernel
theorem dX4_multiply_38 : decode cX4_multiply 38 = .ok (.invokestatic 49, 3) := by decide +kernel
theorem dX4_multiply_41 : decode cX4_multiply 41 = .ok (.istore 5, 2) := by decide +kernel
theorem dX4_multiply_43 : decode cX4_multiply 43 = .ok (.iinc 6 1, 3) := by decide +kernel
theorem dX4_multiply_46 : decode cX4_multiply 46 = .ok (.goto (-31), 3) := by decide +kernel
theorem dX4_multiply_49 : decode cX4_multiply 49 = .ok (.aload_n 1, 1) := by decide +kernel
theorem dX4_multiply_50 : decode cX4_multiply 50 = .ok (.iload 4, 2) := by decide +kernel
theorem dX4_multiply_52 : decode cX4_multiply 52 = .ok (.iload 5, 2) := by decide +kernel
theorem dX4_multiply_54 : decode cX4_multiply 54 = .ok (.iastore, 1) := by decide +kernel
theorem dX4_multiply_55 : decode cX4_multiply 55 = .ok (.iinc 4 (-1), 3) := by decide +kernel
theorem dX4_multiply_58 : decode cX4_multiply 58 = .ok (.goto (-54), 3) := by decide +kernel
theorem dX4_multiply_61 : decode cX4_multiply 61 = .ok (.return_, 1) := by decide +kernel
theorem dX4_divide_0 : decode cX4_divide 0 = .ok (.aload_n 3, 1) := by decide +kernel
theorem dX4_divide_1 : decode cX4_divide 1 = .ok (.iconst 0, 1) := by decide +kernel
theorem dX4_divide_2 : decode cX4_divide 2 = .ok (.iaload, 1) := by decide +kernel
theorem dX4_divide_3 : decode cX4_divide 3 = .ok (.invokestatic 36, 3) := by decide +kernel
theorem dX4_divide_6 : decode cX4_divide 6 = .ok (.istore 4, 2) := by decide +kernel
theorem dX4_divide_8 : decode cX4_divide 8 = .ok (.iconst 0, 1) := by decide +kernel
theorem dX4_divide_9 : decode cX4_divide 9 = .ok (.istore 5, 2) := by decide +kernel
theorem dX4_divide_11 : decode cX4_divide 11 = .ok (.iload 5, 2) := by decide +kernel
theorem dX4_divide_13 : decode cX4_divide 13 = .ok (.bipush 9, 2) := by decide +kernel
theorem dX4_divide_15 : decode cX4_divide 15 = .ok (.if_icmp .ge 63, 3) := by decide +kernel
theorem dX4_divide_18 : decode cX4_divide 18 = .ok (.aload_n 2, 1) := by decide +kernel
theorem dX4_divide_19 : decode cX4_divide 19 = .ok (.iload 5, 2) := by decide +kernel
theorem dX4_divide_21 : decode cX4_divide 21 = .ok (.iaload, 1) := by decide +kernel
theorem dX4_divide_22 : decode cX4_divide 22 = .ok (.istore 6, 2) := by decide +kernel
theorem dX4_divide_24 : decode cX4_divide 24 = .ok (.iconst 1, 1) := by decide +kernel
theorem dX4_divide_25 : decode cX4_divide 25 = .ok (.istore 7, 2) := by decide +kernel
theorem dX4_divide_27 : decode cX4_divide 27 = .ok (.iload 7, 2) := by decide +kernel
theorem dX4_divide_29 : decode cX4_divide 29 = .ok (.iload 5, 2) := by decide +kernel
theorem dX4_divide_31 : decode cX4_divide 31 = .ok (.if_icmp .gt 30, 3) := by decide +kernel
theorem dX4_divide_34 : decode cX4_divide 34 = .ok (.iload 6, 2) := by decide +kernel
theorem dX4_divide_36 : decode cX4_divide 36 = .ok (.aload_n 3, 1) := by decide +kernel
theorem dX4_divide_37 : decode cX4_divide 37 = .ok (.iload 7, 2) := by decide +kernel
theorem dX4_divide_39 : decode cX4_divide 39 = .ok (.iaload, 1) := by decide +kernel
theorem dX4_divide_40 : decode cX4_divide 40 = .ok (.aload_n 1, 1) := by decide +kernel
theorem dX4_divide_41 : decode cX4_divide 41 = .ok (.iload 5, 2) := by decide +kernel
theorem dX4_divide_43 : decode cX4_divide 43 = .ok (.iload 7, 2) := by decide +kernel
theorem dX4_divide_45 : decode cX4_divide 45 = .ok (.isub, 1) := by decide +kernel
theorem dX4_divide_46 : decode cX4_divide 46 = .ok (.iaload, 1) := by decide +kernel
theorem dX4_divide_47 : decode cX4_divide 47 = .ok (.invokestatic 42, 3) := by decide +kernel
theorem dX4_divide_50 : decode cX4_divide 50 = .ok (.invokestatic 46, 3) := by decide +kernel
theorem dX4_divide_53 : decode cX4_divide 53 = .ok (.istore 6, 2) := by decide +kernel
theorem dX4_divide_55 : decode cX4_divide 55 = .ok (.iinc 7 1, 3) := by decide +kernel
theorem dX4_divide_58 : decode cX4_divide 58 = .ok (.goto (-31), 3) := by decide +kernel
theorem dX4_divide_61 : decode cX4_divide 61 = .ok (.aload_n 1, 1) := by decide +kernel
theorem dX4_divide_62 : decode cX4_divide 62 = .ok (.iload 5, 2) := by decide +kernel
theorem dX4_divide_64 : decode cX4_divide 64 = .ok (.iload 6, 2) := by decide +kernel
theorem dX4_divide_66 : decode cX4_divide 66 = .ok (.iload 4, 2) := by decide +kernel
theorem dX4_divide_68 : decode cX4_divide 68 = .ok (.invokestatic 42, 3) := by decide +kernel
theorem dX4_divide_71 : decode cX4_divide 71 = .ok (.iastore, 1) := by decide +kernel
theorem dX4_divide_72 : decode cX4_divide 72 = .ok (.iinc 5 1, 3) := by decide +kernel
theorem dX4_divide_75 : decode cX4_divide 75 = .ok (.goto (-64), 3) := by decide +kernel
theorem dX4_divide_78 : decode cX4_divide 78 = .ok (.return_, 1) := by decide +kernel
theorem dX4_overSeries_0 : decode cX4_overSeries 0 = .ok (.aload_n 1, 1) := by decide +kernel
theorem dX4_overSeries_1 : decode cX4_overSeries 1 = .ok (.iconst 0, 1) := by decide +kernel
theorem dX4_overSeries_2 : decode cX4_overSeries 2 = .ok (.iconst 1, 1) := by decide +kernel
theorem dX4_overSeries_3 : decode cX4_overSeries 3 = .ok (.invokestatic 52, 3) := by decide +kernel
theorem dX4_overSeries_6 : decode cX4_overSeries 6 = .ok (.aload_n 0, 1) := by decide +kernel
theorem dX4_overSeries_7 : decode cX4_overSeries 7 = .ok (.aload_n 1, 1) := by decide +kernel
theorem dX4_overSeries_8 : decode cX4_overSeries 8 = .ok (.aload_n 1, 1) := by decide +kernel
theorem dX4_overSeries_9 : decode cX4_overSeries 9 = .ok (.aload_n 2, 1) := by decide +kernel
theorem dX4_overSeries_10 : decode cX4_overSeries 10 = .ok (.invokevirtual 56, 3) := by decide +kernel
theorem dX4_overSeries_13 : decode cX4_overSeries 13 = .ok (.return_, 1) := by decide +kernel
theorem dX4_putInside_0 : decode cX4_putInside 0 = .ok (.aload_n 0, 1) := by decide +kernel
theorem dX4_putInside_1 : decode cX4_putInside 1 = .ok (.getfield 24, 3) := by decide +kernel
theorem dX4_putInside_4 : decode cX4_putInside 4 = .ok (.iconst 0, 1) := by decide +kernel
theorem dX4_putInside_5 : decode cX4_putInside 5 = .ok (.aload_n 2, 1) := by decide +kernel
theorem dX4_putInside_6 : decode cX4_putInside 6 = .ok (.bipush 8, 2) := by decide +kernel
theorem dX4_putInside_8 : decode cX4_putInside 8 = .ok (.iaload, 1) := by decide +kernel
theorem dX4_putInside_9 : decode cX4_putInside 9 = .ok (.invokestatic 52, 3) := by decide +kernel
theorem dX4_putInside_12 : decode cX4_putInside 12 = .ok (.bipush 7, 2) := by decide +kernel
theorem dX4_putInside_14 : decode cX4_putInside 14 = .ok (.istore 4, 2) := by decide +kernel
theorem dX4_putInside_16 : decode cX4_putInside 16 = .ok (.iload 4, 2) := by decide +kernel
theorem dX4_putInside_18 : decode cX4_putInside 18 = .ok (.ifCond .lt 41, 3) := by decide +kernel
theorem dX4_putInside_21 : decode cX4_putInside 21 = .ok (.aload_n 0, 1) := by decide +kernel
theorem dX4_putInside_22 : decode cX4_putInside 22 = .ok (.aload_n 0, 1) := by decide +kernel
theorem dX4_putInside_23 : decode cX4_putInside 23 = .ok (.getfield 24, 3) := by decide +kernel
theorem dX4_putInside_26 : decode cX4_putInside 26 = .ok (.aload_n 0, 1) := by decide +kernel
theorem dX4_putInside_27 : decode cX4_putInside 27 = .ok (.getfield 24, 3) := by decide +kernel
theorem dX4_putInside_30 : decode cX4_putInside 30 = .ok (.aload_n 3, 1) := by decide +kernel
theorem dX4_putInside_31 : decode cX4_putInside 31 = .ok (.invokevirtual 60, 3) := by decide +kernel
theorem dX4_putInside_34 : decode cX4_putInside 34 = .ok (.aload_n 0, 1) := by decide +kernel
theorem dX4_putInside_35 : decode cX4_putInside 35 = .ok (.getfield 24, 3) := by decide +kernel
theorem dX4_putInside_38 : decode cX4_putInside 38 = .ok (.iconst 0, 1) := by decide +kernel
theorem dX4_putInside_39 : decode cX4_putInside 39 = .ok (.aload_n 0, 1) := by decide +kernel
theorem dX4_putInside_40 : decode cX4_putInside 40 = .ok (.getfield 24, 3) := by decide +kernel
theorem dX4_putInside_43 : decode cX4_putInside 43 = .ok (.iconst 0, 1) := by decide +kernel
theorem dX4_putInside_44 : decode cX4_putInside 44 = .ok (.iaload, 1) := by decide +kernel
theorem dX4_putInside_45 : decode cX4_putInside 45 = .ok (.aload_n 2, 1) := by decide +kernel
theorem dX4_putInside_46 : decode cX4_putInside 46 = .ok (.iload 4, 2) := by decide +kernel
theorem dX4_putInside_48 : decode cX4_putInside 48 = .ok (.iaload, 1) := by decide +kernel
theorem dX4_putInside_49 : decode cX4_putInside 49 = .ok (.invokestatic 49, 3) := by decide +kernel
theorem dX4_putInside_52 : decode cX4_putInside 52 = .ok (.iastore, 1) := by decide +kernel
theorem dX4_putInside_53 : decode cX4_putInside 53 = .ok (.iinc 4 (-1), 3) := by decide +kernel
theorem dX4_putInside_56 : decode cX4_putInside 56 = .ok (.goto (-40), 3) := by decide +kernel
theorem dX4_putInside_59 : decode cX4_putInside 59 = .ok (.aload_n 0, 1) := by decide +kernel
theorem dX4_putInside_60 : decode cX4_putInside 60 = .ok (.getfield 24, 3) := by decide +kernel
theorem dX4_putInside_63 : decode cX4_putInside 63 = .ok (.aload_n 1, 1) := by decide +kernel
theorem dX4_putInside_64 : decode cX4_putInside 64 = .ok (.invokestatic 62, 3) := by decide +kernel
theorem dX4_putInside_67 : decode cX4_putInside 67 = .ok (.return_, 1) := by decide +kernel
theorem dX4_turnInsideOut_0 : decode cX4_turnInsideOut 0 = .ok (.aload_n 0, 1) := by decide +kernel
theorem dX4_turnInsideOut_1 : decode cX4_turnInsideOut 1 = .ok (.aload_n 2, 1) := by decide +kernel
theorem dX4_turnInsideOut_2 : decode cX4_turnInsideOut 2 = .ok (.invokevirtual 66, 3) := by decide +kernel
theorem dX4_turnInsideOut_5 : decode cX4_turnInsideOut 5 = .ok (.aload_n 0, 1) := by decide +kernel
theorem dX4_turnInsideOut_6 : decode cX4_turnInsideOut 6 = .ok (.aload_n 0, 1) := by decide +kernel
theorem dX4_turnInsideOut_7 : decode cX4_turnInsideOut 7 = .ok (.getfield 30, 3) := by decide +kernel
theorem dX4_turnInsideOut_10 : decode cX4_turnInsideOut 10 = .ok (.aload_n 0, 1) := by decide +kernel
theorem dX4_turnInsideOut_11 : decode cX4_turnInsideOut 11 = .ok (.getfield 27, 3) := by decide +kernel
theorem dX4_turnInsideOut_14 : decode cX4_turnInsideOut 14 = .ok (.invokevirtual 70, 3) := by decide +kernel
theorem dX4_turnInsideOut_17 : decode cX4_turnInsideOut 17 = .ok (.aload_n 0, 1) := by decide +kernel
theorem dX4_turnInsideOut_18 : decode cX4_turnInsideOut 18 = .ok (.getfield 33, 3) := by decide +kernel
theorem dX4_turnInsideOut_21 : decode cX4_turnInsideOut 21 = .ok (.iconst 0, 1) := by decide +kernel
theorem dX4_turnInsideOut_22 : decode cX4_turnInsideOut 22 = .ok (.iconst 1, 1) := by decide +kernel
theorem dX4_turnInsideOut_23 : decode cX4_turnInsideOut 23 = .ok (.invokestatic 52, 3) := by decide +kernel
theorem dX4_turnInsideOut_26 : decode cX4_turnInsideOut 26 = .ok (.aload_n 0, 1) := by decide +kernel
theorem dX4_turnInsideOut_27 : decode cX4_turnInsideOut 27 = .ok (.getfield 24, 3) := by decide +kernel
theorem dX4_turnInsideOut_30 : decode cX4_turnInsideOut 30 = .ok (.astore_n 3, 1) := by decide +kernel
theorem dX4_turnInsideOut_31 : decode cX4_turnInsideOut 31 = .ok (.aload_n 3, 1) := by decide +kernel
theorem dX4_turnInsideOut_32 : decode cX4_turnInsideOut 32 = .ok (.iconst 0, 1) := by decide +kernel
theorem dX4_turnInsideOut_33 : decode cX4_turnInsideOut 33 = .ok (.iconst 0, 1) := by decide +kernel
theorem dX4_turnInsideOut_34 : decode cX4_turnInsideOut 34 = .ok (.iastore, 1) := by decide +kernel
theorem dX4_turnInsideOut_35 : decode cX4_turnInsideOut 35 = .ok (.iconst 1, 1) := by decide +kernel
theorem dX4_turnInsideOut_36 : decode cX4_turnInsideOut 36 = .ok (.istore 4, 2) := by decide +kernel
theorem dX4_turnInsideOut_38 : decode cX4_turnInsideOut 38 = .ok (.iload 4, 2) := by decide +kernel
theorem dX4_turnInsideOut_40 : decode cX4_turnInsideOut 40 = .ok (.bipush 9, 2) := by decide +kernel
theorem dX4_turnInsideOut_42 : decode cX4_turnInsideOut 42 = .ok (.if_icmp .ge 46, 3) := by decide +kernel
theorem dX4_turnInsideOut_45 : decode cX4_turnInsideOut 45 = .ok (.aload_n 0, 1) := by decide +kernel
theorem dX4_turnInsideOut_46 : decode cX4_turnInsideOut 46 = .ok (.aload_n 0, 1) := by decide +kernel
theorem dX4_turnInsideOut_47 : decode cX4_turnInsideOut 47 = .ok (.getfield 33, 3) := by decide +kernel
theorem dX4_turnInsideOut_50 : decode cX4_turnInsideOut 50 = .ok (.aload_n 0, 1) := by decide +kernel
theorem dX4_turnInsideOut_51 : decode cX4_turnInsideOut 51 = .ok (.getfield 33, 3) := by decide +kernel
theorem dX4_turnInsideOut_54 : decode cX4_turnInsideOut 54 = .ok (.aload_n 0, 1) := by decide +kernel
theorem dX4_turnInsideOut_55 : decode cX4_turnInsideOut 55 = .ok (.getfield 30, 3) := by decide +kernel
theorem dX4_turnInsideOut_58 : decode cX4_turnInsideOut 58 = .ok (.invokevirtual 60, 3) := by decide +kernel
theorem dX4_turnInsideOut_61 : decode cX4_turnInsideOut 61 = .ok (.aload_n 3, 1) := by decide +kernel
theorem dX4_turnInsideOut_62 : decode cX4_turnInsideOut 62 = .ok (.iload 4, 2) := by decide +kernel
theorem dX4_turnInsideOut_64 : decode cX4_turnInsideOut 64 = .ok (.aload_n 0, 1) := by decide +kernel
theorem dX4_turnInsideOut_65 : decode cX4_turnInsideOut 65 = .ok (.getfield 33, 3) := by decide +kernel
theorem dX4_turnInsideOut_68 : decode cX4_turnInsideOut 68 = .ok (.iload 4, 2) := by decide +kernel
theorem dX4_turnInsideOut_70 : decode cX4_turnInsideOut 70 = .ok (.iconst 1, 1) := by decide +kernel
theorem dX4_turnInsideOut_71 : decode cX4_turnInsideOut 71 = .ok (.isub, 1) := by decide +kernel
theorem dX4_turnInsideOut_72 : decode cX4_turnInsideOut 72 = .ok (.iaload, 1) := by decide +kernel
theorem dX4_turnInsideOut_73 : decode cX4_turnInsideOut 73 = .ok (.iload 4, 2) := by decide +kernel
theorem dX4_turnInsideOut_75 : decode cX4_turnInsideOut 75 = .ok (.invokestatic 36, 3) := by decide +kernel
theorem dX4_turnInsideOut_78 : decode cX4_turnInsideOut 78 = .ok (.invokestatic 42, 3) := by decide +kernel
theorem dX4_turnInsideOut_81 : decode cX4_turnInsideOut 81 = .ok (.iastore, 1) := by decide +kernel
theorem dX4_turnInsideOut_82 : decode cX4_turnInsideOut 82 = .ok (.iinc 4 1, 3) := by decide +kernel
theorem dX4_turnInsideOut_85 : decode cX4_turnInsideOut 85 = .ok (.goto (-47), 3) := by decide +kernel
theorem dX4_turnInsideOut_88 : decode cX4_turnInsideOut 88 = .ok (.aload_n 3, 1) := by decide +kernel
theorem dX4_turnInsideOut_89 : decode cX4_turnInsideOut 89 = .ok (.aload_n 1, 1) := by decide +kernel
theorem dX4_turnInsideOut_90 : decode cX4_turnInsideOut 90 = .ok (.invokestatic 62, 3) := by decide +kernel
theorem dX4_turnInsideOut_93 : decode cX4_turnInsideOut 93 = .ok (.return_, 1) := by decide +kernel
theorem dX4_lower_0 : decode cX4_lower 0 = .ok (.iconst 0, 1) := by decide +kernel
theorem dX4_lower_1 : decode cX4_lower 1 = .ok (.istore_n 2, 1) := by decide +kernel
theorem dX4_lower_2 : decode cX4_lower 2 = .ok (.iload_n 2, 1) := by decide +kernel
theorem dX4_lower_3 : decode cX4_lower 3 = .ok (.bipush 8, 2) := by decide +kernel
theorem dX4_lower_5 : decode cX4_lower 5 = .ok (.if_icmp .ge 20, 3) := by decide +kernel
theorem dX4_lower_8 : decode cX4_lower 8 = .ok (.aload_n 0, 1) := by decide +kernel
theorem dX4_lower_9 : decode cX4_lower 9 = .ok (.getfield 27, 3) := by decide +kernel
theorem dX4_lower_12 : decode cX4_lower 12 = .ok (.iload_n 2, 1) := by decide +kernel
theorem dX4_lower_13 : decode cX4_lower 13 = .ok (.aload_n 1, 1) := by decide +kernel
theorem dX4_lower_14 : decode cX4_lower 14 = .ok (.iload_n 2, 1) := by decide +kernel
theorem dX4_lower_15 : decode cX4_lower 15 = .ok (.iconst 1, 1) := by decide +kernel
theorem dX4_lower_16 : decode cX4_lower 16 = .ok (.iadd, 1) := by decide +kernel
theorem dX4_lower_17 : decode cX4_lower 17 = .ok (.iaload, 1) := by decide +kernel
theorem dX4_lower_18 : decode cX4_lower 18 = .ok (.iastore, 1) := by decide +kernel
theorem dX4_lower_19 : decode cX4_lower 19 = .ok (.iinc 2 1, 3) := by decide +kernel
theorem dX4_lower_22 : decode cX4_lower 22 = .ok (.goto (-20), 3) := by decide +kernel
theorem dX4_lower_25 : decode cX4_lower 25 = .ok (.aload_n 0, 1) := by decide +kernel
theorem dX4_lower_26 : decode cX4_lower 26 = .ok (.getfield 27, 3) := by decide +kernel
theorem dX4_lower_29 : decode cX4_lower 29 = .ok (.bipush 8, 2) := by decide +kernel
theorem dX4_lower_31 : decode cX4_lower 31 = .ok (.iconst 0, 1) := by decide +kernel
theorem dX4_lower_32 : decode cX4_lower 32 = .ok (.iastore, 1) := by decide +kernel
theorem dX4_lower_33 : decode cX4_lower 33 = .ok (.return_, 1) := by decide +kernel
theorem dX4_exponentialOf_0 : decode cX4_exponentialOf 0 = .ok (.iconst 1, 1) := by decide +kernel
theorem dX4_exponentialOf_1 : decode cX4_exponentialOf 1 = .ok (.istore_n 3, 1) := by decide +kernel
theorem dX4_exponentialOf_2 : decode cX4_exponentialOf 2 = .ok (.iconst 0, 1) := by decide +kernel
theorem dX4_exponentialOf_3 : decode cX4_exponentialOf 3 = .ok (.istore 4, 2) := by decide +kernel
theorem dX4_exponentialOf_5 : decode cX4_exponentialOf 5 = .ok (.iload 4, 2) := by decide +kernel
theorem dX4_exponentialOf_7 : decode cX4_exponentialOf 7 = .ok (.bipush 9, 2) := by decide +kernel
theorem dX4_exponentialOf_9 : decode cX4_exponentialOf 9 = .ok (.if_icmp .ge 30, 3) := by decide +kernel
theorem dX4_exponentialOf_12 : decode cX4_exponentialOf 12 = .ok (.aload_n 1, 1) := by decide +kernel
theorem dX4_exponentialOf_13 : decode cX4_exponentialOf 13 = .ok (.iload 4, 2) := by decide +kernel
theorem dX4_exponentialOf_15 : decode cX4_exponentialOf 15 = .ok (.iload_n 3, 1) := by decide +kernel
theorem dX4_exponentialOf_16 : decode cX4_exponentialOf 16 = .ok (.aload_n 0, 1) := by decide +kernel
theorem dX4_exponentialOf_17 : decode cX4_exponentialOf 17 = .ok (.getfield 9, 3) := by decide +kernel
theorem dX4_exponentialOf_20 : decode cX4_exponentialOf 20 = .ok (.iload 4, 2) := by decide +kernel
theorem dX4_exponentialOf_22 : decode cX4_exponentialOf 22 = .ok (.iaload, 1) := by decide +kernel
theorem dX4_exponentialOf_23 : decode cX4_exponentialOf 23 = .ok (.invokestatic 42, 3) := by decide +kernel
theorem dX4_exponentialOf_26 : decode cX4_exponentialOf 26 = .ok (.iastore, 1) := by decide +kernel
theorem dX4_exponentialOf_27 : decode cX4_exponentialOf 27 = .ok (.iload_n 3, 1) := by decide +kernel
theorem dX4_exponentialOf_28 : decode cX4_exponentialOf 28 = .ok (.iload_n 2, 1) := by decide +kernel
theorem dX4_exponentialOf_29 : decode cX4_exponentialOf 29 = .ok (.invokestatic 42, 3) := by decide +kernel
theorem dX4_exponentialOf_32 : decode cX4_exponentialOf 32 = .ok (.istore_n 3, 1) := by decide +kernel
theorem dX4_exponentialOf_33 : decode cX4_exponentialOf 33 = .ok (.iinc 4 1, 3) := by decide +kernel
theorem dX4_exponentialOf_36 : decode cX4_exponentialOf 36 = .ok (.goto (-31), 3) := by decide +kernel
theorem dX4_exponentialOf_39 : decode cX4_exponentialOf 39 = .ok (.return_, 1) := by decide +kernel
theorem dX4_takeBy_0 : decode cX4_takeBy 0 = .ok (.iconst 0, 1) := by decide +kernel
theorem dX4_takeBy_1 : decode cX4_takeBy 1 = .ok (.istore_n 3, 1) := by decide +kernel
theorem dX4_takeBy_2 : decode cX4_takeBy 2 = .ok (.iload_n 3, 1) := by decide +kernel
theorem dX4_takeBy_3 : decode cX4_takeBy 3 = .ok (.bipush 9, 2) := by decide +kernel
theorem dX4_takeBy_5 : decode cX4_takeBy 5 = .ok (.if_icmp .ge 80, 3) := by decide +kernel
theorem dX4_takeBy_8 : decode cX4_takeBy 8 = .ok (.iconst 0, 1) := by decide +kernel
theorem dX4_takeBy_9 : decode cX4_takeBy 9 = .ok (.istore 4, 2) := by decide +kernel
theorem dX4_takeBy_11 : decode cX4_takeBy 11 = .ok (.iconst 0, 1) := by decide +kernel
theorem dX4_takeBy_12 : decode cX4_takeBy 12 = .ok (.istore 5, 2) := by decide +kernel
theorem dX4_takeBy_14 : decode cX4_takeBy 14 = .ok (.iload_n 3, 1) := by decide +kernel
theorem dX4_takeBy_15 : decode cX4_takeBy 15 = .ok (.iload 5, 2) := by decide +kernel
theorem dX4_takeBy_17 : decode cX4_takeBy 17 = .ok (.iadd, 1) := by decide +kernel
theorem dX4_takeBy_18 : decode cX4_takeBy 18 = .ok (.bipush 9, 2) := by decide +kernel
theorem dX4_takeBy_20 : decode cX4_takeBy 20 = .ok (.if_icmp .ge 45, 3) := by decide +kernel
theorem dX4_takeBy_23 : decode cX4_takeBy 23 = .ok (.aload_n 1, 1) := by decide +kernel
theorem dX4_takeBy_24 : decode cX4_takeBy 24 = .ok (.iload_n 3, 1) := by decide +kernel
theorem dX4_takeBy_25 : decode cX4_takeBy 25 = .ok (.iload 5, 2) := by decide +kernel
theorem dX4_takeBy_27 : decode cX4_takeBy 27 = .ok (.iadd, 1) := by decide +kernel
theorem dX4_takeBy_28 : decode cX4_takeBy 28 = .ok (.iaload, 1) := by decide +kernel
theorem dX4_takeBy_29 : decode cX4_takeBy 29 = .ok (.aload_n 0, 1) := by decide +kernel
theorem dX4_takeBy_30 : decode cX4_takeBy 30 = .ok (.getfield 21, 3) := by decide +kernel
theorem dX4_takeBy_33 : decode cX4_takeBy 33 = .ok (.iload_n 3, 1) := by decide +kernel
theorem dX4_takeBy_34 : decode cX4_takeBy 34 = .ok (.iload 5, 2) := by decide +kernel
theorem dX4_takeBy_36 : decode cX4_takeBy 36 = .ok (.iadd, 1) := by decide +kernel
theorem dX4_takeBy_37 : decode cX4_takeBy 37 = .ok (.iaload, 1) := by decide +kernel
theorem dX4_takeBy_38 : decode cX4_takeBy 38 = .ok (.invokestatic 42, 3) := by decide +kernel
theorem dX4_takeBy_41 : decode cX4_takeBy 41 = .ok (.istore 6, 2) := by decide +kernel
theorem dX4_takeBy_43 : decode cX4_takeBy 43 = .ok (.iload 4, 2) := by decide +kernel
theorem dX4_takeBy_45 : decode cX4_takeBy 45 = .ok (.iload 6, 2) := by decide +kernel
theorem dX4_takeBy_47 : decode cX4_takeBy 47 = .ok (.aload_n 2, 1) := by decide +kernel
theorem dX4_takeBy_48 : decode cX4_takeBy 48 = .ok (.iload 5, 2) := by decide +kernel
theorem dX4_takeBy_50 : decode cX4_takeBy 50 = .ok (.iaload, 1) := by decide +kernel
theorem dX4_takeBy_51 : decode cX4_takeBy 51 = .ok (.invokestatic 42, 3) := by decide +kernel
theorem dX4_takeBy_54 : decode cX4_takeBy 54 = .ok (.invokestatic 49, 3) := by decide +kernel
theorem dX4_takeBy_57 : decode cX4_takeBy 57 = .ok (.istore 4, 2) := by decide +kernel
theorem dX4_takeBy_59 : decode cX4_takeBy 59 = .ok (.iinc 5 1, 3) := by decide +kernel
theorem dX4_takeBy_62 : decode cX4_takeBy 62 = .ok (.goto (-48), 3) := by decide +kernel
theorem dX4_takeBy_65 : decode cX4_takeBy 65 = .ok (.aload_n 1, 1) := by decide +kernel
theorem dX4_takeBy_66 : decode cX4_takeBy 66 = .ok (.iload_n 3, 1) := by decide +kernel
theorem dX4_takeBy_67 : decode cX4_takeBy 67 = .ok (.iload 4, 2) := by decide +kernel
theorem dX4_takeBy_69 : decode cX4_takeBy 69 = .ok (.aload_n 0, 1) := by decide +kernel
theorem dX4_takeBy_70 : decode cX4_takeBy 70 = .ok (.getfield 9, 3) := by decide +kernel
theorem dX4_takeBy_73 : decode cX4_takeBy 73 = .ok (.iload_n 3, 1) := by decide +kernel
theorem dX4_takeBy_74 : decode cX4_takeBy 74 = .ok (.iaload, 1) := by decide +kernel
theorem dX4_takeBy_75 : decode cX4_takeBy 75 = .ok (.invokestatic 42, 3) := by decide +kernel
theorem dX4_takeBy_78 : decode cX4_takeBy 78 = .ok (.iastore, 1) := by decide +kernel
theorem dX4_takeBy_79 : decode cX4_takeBy 79 = .ok (.iinc 3 1, 3) := by decide +kernel
theorem dX4_takeBy_82 : decode cX4_takeBy 82 = .ok (.goto (-80), 3) := by decide +kernel
theorem dX4_takeBy_85 : decode cX4_takeBy 85 = .ok (.return_, 1) := by decide +kernel
theorem dX4_untakeBy_0 : decode cX4_untakeBy 0 = .ok (.aload_n 0, 1) := by decide +kernel
theorem dX4_untakeBy_1 : decode cX4_untakeBy 1 = .ok (.aload_n 2, 1) := by decide +kernel
theorem dX4_untakeBy_2 : decode cX4_untakeBy 2 = .ok (.invokevirtual 66, 3) := by decide +kernel
theorem dX4_untakeBy_5 : decode cX4_untakeBy 5 = .ok (.aload_n 0, 1) := by decide +kernel
theorem dX4_untakeBy_6 : decode cX4_untakeBy 6 = .ok (.aload_n 0, 1) := by decide +kernel
theorem dX4_untakeBy_7 : decode cX4_untakeBy 7 = .ok (.getfield 30, 3) := by decide +kernel
theorem dX4_untakeBy_10 : decode cX4_untakeBy 10 = .ok (.aload_n 0, 1) := by decide +kernel
theorem dX4_untakeBy_11 : decode cX4_untakeBy 11 = .ok (.getfield 27, 3) := by decide +kernel
theorem dX4_untakeBy_14 : decode cX4_untakeBy 14 = .ok (.invokevirtual 70, 3) := by decide +kernel
theorem dX4_untakeBy_17 : decode cX4_untakeBy 17 = .ok (.aload_n 0, 1) := by decide +kernel
theorem dX4_untakeBy_18 : decode cX4_untakeBy 18 = .ok (.aload_n 1, 1) := by decide +kernel
theorem dX4_untakeBy_19 : decode cX4_untakeBy 19 = .ok (.aload_n 0, 1) := by decide +kernel
theorem dX4_untakeBy_20 : decode cX4_untakeBy 20 = .ok (.getfield 30, 3) := by decide +kernel
theorem dX4_untakeBy_23 : decode cX4_untakeBy 23 = .ok (.invokevirtual 73, 3) := by decide +kernel
theorem dX4_untakeBy_26 : decode cX4_untakeBy 26 = .ok (.aload_n 1, 1) := by decide +kernel
theorem dX4_untakeBy_27 : decode cX4_untakeBy 27 = .ok (.invokestatic 76, 3) := by decide +kernel
theorem dX4_untakeBy_30 : decode cX4_untakeBy 30 = .ok (.iconst 1, 1) := by decide +kernel
theorem dX4_untakeBy_31 : decode cX4_untakeBy 31 = .ok (.istore_n 3, 1) := by decide +kernel
theorem dX4_untakeBy_32 : decode cX4_untakeBy 32 = .ok (.iload_n 3, 1) := by decide +kernel
theorem dX4_untakeBy_33 : decode cX4_untakeBy 33 = .ok (.bipush 9, 2) := by decide +kernel
theorem dX4_untakeBy_35 : decode cX4_untakeBy 35 = .ok (.if_icmp .ge 22, 3) := by decide +kernel
theorem dX4_untakeBy_38 : decode cX4_untakeBy 38 = .ok (.aload_n 1, 1) := by decide +kernel
theorem dX4_untakeBy_39 : decode cX4_untakeBy 39 = .ok (.iload_n 3, 1) := by decide +kernel
theorem dX4_untakeBy_40 : decode cX4_untakeBy 40 = .ok (.aload_n 1, 1) := by decide +kernel
theorem dX4_untakeBy_41 : decode cX4_untakeBy 41 = .ok (.iload_n 3, 1) := by decide +kernel
theorem dX4_untakeBy_42 : decode cX4_untakeBy 42 = .ok (.iaload, 1) := by decide +kernel
theorem dX4_untakeBy_43 : decode cX4_untakeBy 43 = .ok (.iload_n 3, 1) := by decide +kernel
theorem dX4_untakeBy_44 : decode cX4_untakeBy 44 = .ok (.invokestatic 36, 3) := by decide +kernel
theorem dX4_untakeBy_47 : decode cX4_untakeBy 47 = .ok (.invokestatic 42, 3) := by decide +kernel
theorem dX4_untakeBy_50 : decode cX4_untakeBy 50 = .ok (.iastore, 1) := by decide +kernel
theorem dX4_untakeBy_51 : decode cX4_untakeBy 51 = .ok (.iinc 3 1, 3) := by decide +kernel
theorem dX4_untakeBy_54 : decode cX4_untakeBy 54 = .ok (.goto (-22), 3) := by decide +kernel
theorem dX4_untakeBy_57 : decode cX4_untakeBy 57 = .ok (.return_, 1) := by decide +kernel
theorem dX4_tellPolynomials_0 : decode cX4_tellPolynomials 0 = .ok (.aload_n 2, 1) := by decide +kernel
theorem dX4_tellPolynomials_1 : decode cX4_tellPolynomials 1 = .ok (.aload_n 0, 1) := by decide +kernel
theorem dX4_tellPolynomials_2 : decode cX4_tellPolynomials 2 = .ok (.getfield 33, 3) := by decide +kernel
theorem dX4_tellPolynomials_5 : decode cX4_tellPolynomials 5 = .ok (.invokestatic 62, 3) := by decide +kernel
theorem dX4_tellPolynomials_8 : decode cX4_tellPolynomials 8 = .ok (.iconst 0, 1) := by decide +kernel
theorem dX4_tellPolynomials_9 : decode cX4_tellPolynomials 9 = .ok (.istore 4, 2) := by decide +kernel
theorem dX4_tellPolynomials_11 : decode cX4_tellPolynomials 11 = .ok (.iload 4, 2) := by decide +kernel
theorem dX4_tellPolynomials_13 : decode cX4_tellPolynomials 13 = .ok (.bipush 9, 2) := by decide +kernel
theorem dX4_tellPolynomials_15 : decode cX4_tellPolynomials 15 = .ok (.if_icmp .ge 76, 3) := by decide +kernel
theorem dX4_tellPolynomials_18 : decode cX4_tellPolynomials 18 = .ok (.iconst 0, 1) := by decide +kernel
theorem dX4_tellPolynomials_19 : decode cX4_tellPolynomials 19 = .ok (.istore 5, 2) := by decide +kernel
theorem dX4_tellPolynomials_21 : decode cX4_tellPolynomials 21 = .ok (.iload 5, 2) := by decide +kernel
theorem dX4_tellPolynomials_23 : decode cX4_tellPolynomials 23 = .ok (.bipush 9, 2) := by decide +kernel
theorem dX4_tellPolynomials_25 : decode cX4_tellPolynomials 25 = .ok (.if_icmp .ge 47, 3) := by decide +kernel
theorem dX4_tellPolynomials_28 : decode cX4_tellPolynomials 28 = .ok (.aload_n 0, 1) := by decide +kernel
theorem dX4_tellPolynomials_29 : decode cX4_tellPolynomials 29 = .ok (.getfield 21, 3) := by decide +kernel
theorem dX4_tellPolynomials_32 : decode cX4_tellPolynomials 32 = .ok (.iload 5, 2) := by decide +kernel
theorem dX4_tellPolynomials_34 : decode cX4_tellPolynomials 34 = .ok (.iaload, 1) := by decide +kernel
theorem dX4_tellPolynomials_35 : decode cX4_tellPolynomials 35 = .ok (.aload_n 0, 1) := by decide +kernel
theorem dX4_tellPolynomials_36 : decode cX4_tellPolynomials 36 = .ok (.getfield 9, 3) := by decide +kernel
theorem dX4_tellPolynomials_39 : decode cX4_tellPolynomials 39 = .ok (.iload 4, 2) := by decide +kernel
theorem dX4_tellPolynomials_41 : decode cX4_tellPolynomials 41 = .ok (.iaload, 1) := by decide +kernel
theorem dX4_tellPolynomials_42 : decode cX4_tellPolynomials 42 = .ok (.invokestatic 42, 3) := by decide +kernel
theorem dX4_tellPolynomials_45 : decode cX4_tellPolynomials 45 = .ok (.istore 6, 2) := by decide +kernel
theorem dX4_tellPolynomials_47 : decode cX4_tellPolynomials 47 = .ok (.aload_n 1, 1) := by decide +kernel
theorem dX4_tellPolynomials_48 : decode cX4_tellPolynomials 48 = .ok (.iload 5, 2) := by decide +kernel
theorem dX4_tellPolynomials_50 : decode cX4_tellPolynomials 50 = .ok (.aaload, 1) := by decide +kernel
theorem dX4_tellPolynomials_51 : decode cX4_tellPolynomials 51 = .ok (.iload 4, 2) := by decide +kernel
theorem dX4_tellPolynomials_53 : decode cX4_tellPolynomials 53 = .ok (.iload 6, 2) := by decide +kernel
theorem dX4_tellPolynomials_55 : decode cX4_tellPolynomials 55 = .ok (.aload_n 0, 1) := by decide +kernel
theorem dX4_tellPolynomials_56 : decode cX4_tellPolynomials 56 = .ok (.getfield 33, 3) := by decide +kernel
theorem dX4_tellPolynomials_59 : decode cX4_tellPolynomials 59 = .ok (.iload 5, 2) := by decide +kernel
theorem dX4_tellPolynomials_61 : decode cX4_tellPolynomials 61 = .ok (.iaload, 1) := by decide +kernel
theorem dX4_tellPolynomials_62 : decode cX4_tellPolynomials 62 = .ok (.invokestatic 42, 3) := by decide +kernel
theorem dX4_tellPolynomials_65 : decode cX4_tellPolynomials 65 = .ok (.iastore, 1) := by decide +kernel
theorem dX4_tellPolynomials_66 : decode cX4_tellPolynomials 66 = .ok (.iinc 5 1, 3) := by decide +kernel
theorem dX4_tellPolynomials_69 : decode cX4_tellPolynomials 69 = .ok (.goto (-48), 3) := by decide +kernel
theorem dX4_tellPolynomials_72 : decode cX4_tellPolynomials 72 = .ok (.aload_n 0, 1) := by decide +kernel
theorem dX4_tellPolynomials_73 : decode cX4_tellPolynomials 73 = .ok (.aload_n 0, 1) := by decide +kernel
theorem dX4_tellPolynomials_74 : decode cX4_tellPolynomials 74 = .ok (.getfield 33, 3) := by decide +kernel
theorem dX4_tellPolynomials_77 : decode cX4_tellPolynomials 77 = .ok (.aload_n 0, 1) := by decide +kernel
theorem dX4_tellPolynomials_78 : decode cX4_tellPolynomials 78 = .ok (.getfield 33, 3) := by decide +kernel
theorem dX4_tellPolynomials_81 : decode cX4_tellPolynomials 81 = .ok (.aload_n 3, 1) := by decide +kernel
theorem dX4_tellPolynomials_82 : decode cX4_tellPolynomials 82 = .ok (.invokevirtual 60, 3) := by decide +kernel
theorem dX4_tellPolynomials_85 : decode cX4_tellPolynomials 85 = .ok (.iinc 4 1, 3) := by decide +kernel
theorem dX4_tellPolynomials_88 : decode cX4_tellPolynomials 88 = .ok (.goto (-77), 3) := by decide +kernel
theorem dX4_tellPolynomials_91 : decode cX4_tellPolynomials 91 = .ok (.return_, 1) := by decide +kernel
theorem dX5_init_0 : decode cX5_init 0 = .ok (.aload_n 0, 1) := by decide +kernel
theorem dX5_init_1 : decode cX5_init 1 = .ok (.invokespecial 3, 3) := by decide +kernel
theorem dX5_init_4 : decode cX5_init 4 = .ok (.aload_n 0, 1) := by decide +kernel
theorem dX5_init_5 : decode cX5_init 5 = .ok (.bipush 9, 2) := by decide +kernel
theorem dX5_init_7 : decode cX5_init 7 = .ok (.newarray .int, 2) := by decide +kernel
theorem dX5_init_9 : decode cX5_init 9 = .ok (.putfield 9, 3) := by decide +kernel
theorem dX5_init_12 : decode cX5_init 12 = .ok (.aload_n 0, 1) := by decide +kernel
theorem dX5_init_13 : decode cX5_init 13 = .ok (.bipush 9, 2) := by decide +kernel
theorem dX5_init_15 : decode cX5_init 15 = .ok (.newarray .int, 2) := by decide +kernel
theorem dX5_init_17 : decode cX5_init 17 = .ok (.putfield 15, 3) := by decide +kernel
theorem dX5_init_20 : decode cX5_init 20 = .ok (.aload_n 0, 1) := by decide +kernel
theorem dX5_init_21 : decode cX5_init 21 = .ok (.bipush 9, 2) := by decide +kernel
theorem dX5_init_23 : decode cX5_init 23 = .ok (.newarray .int, 2) := by decide +kernel
theorem dX5_init_25 : decode cX5_init 25 = .ok (.putfield 18, 3) := by decide +kernel
theorem dX5_init_28 : decode cX5_init 28 = .ok (.aload_n 0, 1) := by decide +kernel
theorem dX5_init_29 : decode cX5_init 29 = .ok (.bipush 9, 2) := by decide +kernel
theorem dX5_init_31 : decode cX5_init 31 = .ok (.newarray .int, 2) := by decide +kernel
theorem dX5_init_33 : decode cX5_init 33 = .ok (.putfield 21, 3) := by decide +kernel
theorem dX5_init_36 : decode cX5_init 36 = .ok (.aload_n 0, 1) := by decide +kernel
theorem dX5_init_37 : decode cX5_init 37 = .ok (.bipush 9, 2) := by decide +kernel
theorem dX5_init_39 : decode cX5_init 39 = .ok (.bipush 9, 2) := by decide +kernel
theorem dX5_init_41 : decode cX5_init 41 = .ok (.multianewarray 24 2, 4) := by decide +kernel
theorem dX5_init_45 : decode cX5_init 45 = .ok (.putfield 26, 3) := by decide +kernel
theorem dX5_init_48 : decode cX5_init 48 = .ok (.aload_n 0, 1) := by decide +kernel
theorem dX5_init_49 : decode cX5_init 49 = .ok (.bipush 9, 2) := by decide +kernel
theorem dX5_init_51 : decode cX5_init 51 = .ok (.newarray .int, 2) := by decide +kernel
theorem dX5_init_53 : decode cX5_init 53 = .ok (.putfield 29, 3) := by decide +kernel
theorem dX5_init_56 : decode cX5_init 56 = .ok (.aload_n 0, 1) := by decide +kernel
theorem dX5_init_57 : decode cX5_init 57 = .ok (.bipush 9, 2) := by decide +kernel
theorem dX5_init_59 : decode cX5_init 59 = .ok (.newarray .int, 2) := by decide +kernel
theorem dX5_init_61 : decode cX5_init 61 = .ok (.putfield 32, 3) := by decide +kernel
theorem dX5_init_64 : decode cX5_init 64 = .ok (.aload_n 0, 1) := by decide +kernel
theorem dX5_init_65 : decode cX5_init 65 = .ok (.aload_n 1, 1) := by decide +kernel
theorem dX5_init_66 : decode cX5_init 66 = .ok (.putfield 35, 3) := by decide +kernel
theorem dX5_init_69 : decode cX5_init 69 = .ok (.aload_n 0, 1) := by decide +kernel
theorem dX5_init_70 : decode cX5_init 70 = .ok (.getfield 9, 3) := by decide +kernel
theorem dX5_init_73 : decode cX5_init 73 = .ok (.iconst 0, 1) := by decide +kernel
theorem dX5_init_74 : decode cX5_init 74 = .ok (.iconst 1, 1) := by decide +kernel
theorem dX5_init_75 : decode cX5_init 75 = .ok (.invokestatic 39, 3) := by decide +kernel
theorem dX5_init_78 : decode cX5_init 78 = .ok (.aload_n 0, 1) := by decide +kernel
theorem dX5_init_79 : decode cX5_init 79 = .ok (.getfield 15, 3) := by decide +kernel
theorem dX5_init_82 : decode cX5_init 82 = .ok (.iconst 1, 1) := by decide +kernel
theorem dX5_init_83 : decode cX5_init 83 = .ok (.iconst 1, 1) := by decide +kernel
theorem dX5_init_84 : decode cX5_init 84 = .ok (.invokestatic 39, 3) := by decide +kernel
theorem dX5_init_87 : decode cX5_init 87 = .ok (.aload_n 0, 1) := by decide +kernel
theorem dX5_init_88 : decode cX5_init 88 = .ok (.invokevirtual 43, 3) := by decide +kernel
theorem dX5_init_91 : decode cX5_init 91 = .ok (.return_, 1) := by decide +kernel
theorem dX5_become_0 : decode cX5_become 0 = .ok (.aload_n 1, 1) := by decide +kernel
theorem dX5_become_1 : decode cX5_become 1 = .ok (.aload_n 0, 1) := by decide +kernel
theorem dX5_become_2 : decode cX5_become 2 = .ok (.getfield 9, 3) := by decide +kernel
theorem dX5_become_5 : decode cX5_become 5 = .ok (.invokestatic 46, 3) := by decide +kernel
theorem dX5_become_8 : decode cX5_become 8 = .ok (.aload_n 2, 1) := by decide +kernel
theorem dX5_become_9 : decode cX5_become 9 = .ok (.aload_n 0, 1) := by decide +kernel
theorem dX5_become_10 : decode cX5_become 10 = .ok (.getfield 15, 3) := by decide +kernel
theorem dX5_become_13 : decode cX5_become 13 = .ok (.invokestatic 46, 3) := by decide +kernel
theorem dX5_become_16 : decode cX5_become 16 = .ok (.aload_n 0, 1) := by decide +kernel
theorem dX5_become_17 : decode cX5_become 17 = .ok (.invokevirtual 43, 3) := by decide +kernel
theorem dX5_become_20 : decode cX5_become 20 = .ok (.aload_n 0, 1) := by decide +kernel
theorem dX5_become_21 : decode cX5_become 21 = .ok (.getfield 15, 3) := by decide +kernel
theorem dX5_become_24 : decode cX5_become 24 = .ok (.iconst 1, 1) := by decide +kernel
theorem dX5_become_25 : decode cX5_become 25 = .ok (.iaload, 1) := by decide +kernel
theorem dX5_become_26 : decode cX5_become 26 = .ok (.ireturn, 1) := by decide +kernel
theorem dX5_reckonAll_0 : decode cX5_reckonAll 0 = .ok (.aload_n 0, 1) := by decide +kernel
theorem dX5_reckonAll_1 : decode cX5_reckonAll 1 = .ok (.getfield 35, 3) := by decide +kernel
theorem dX5_reckonAll_4 : decode cX5_reckonAll 4 = .ok (.aload_n 0, 1) := by decide +kernel
theorem dX5_reckonAll_5 : decode cX5_reckonAll 5 = .ok (.getfield 18, 3) := by decide +kernel
theorem dX5_reckonAll_8 : decode cX5_reckonAll 8 = .ok (.aload_n 0, 1) := by decide +kernel
theorem dX5_reckonAll_9 : decode cX5_reckonAll 9 = .ok (.getfield 9, 3) := by decide +kernel
theorem dX5_reckonAll_12 : decode cX5_reckonAll 12 = .ok (.invokevirtual 50, 3) := by decide +kernel
theorem dX5_reckonAll_15 : decode cX5_reckonAll 15 = .ok (.aload_n 0, 1) := by decide +kernel
theorem dX5_reckonAll_16 : decode cX5_reckonAll 16 = .ok (.getfield 35, 3) := by decide +kernel
theorem dX5_reckonAll_19 : decode cX5_reckonAll 19 = .ok (.aload_n 0, 1) := by decide +kernel
theorem dX5_reckonAll_20 : decode cX5_reckonAll 20 = .ok (.getfield 21, 3) := by decide +kernel
theorem dX5_reckonAll_23 : decode cX5_reckonAll 23 = .ok (.aload_n 0, 1) := by decide +kernel
theorem dX5_reckonAll_24 : decode cX5_reckonAll 24 = .ok (.getfield 15, 3) := by decide +kernel
theorem dX5_reckonAll_27 : decode cX5_reckonAll 27 = .ok (.invokevirtual 55, 3) := by decide +kernel
theorem dX5_reckonAll_30 : decode cX5_reckonAll 30 = .ok (.aload_n 0, 1) := by decide +kernel
theorem dX5_reckonAll_31 : decode cX5_reckonAll 31 = .ok (.getfield 35, 3) := by decide +kernel
theorem dX5_reckonAll_34 : decode cX5_reckonAll 34 = .ok (.aload_n 0, 1) := by decide +kernel
theorem dX5_reckonAll_35 : decode cX5_reckonAll 35 = .ok (.getfield 29, 3) := by decide +kernel
theorem dX5_reckonAll_38 : decode cX5_reckonAll 38 = .ok (.aload_n 0, 1) := by decide +kernel
theorem dX5_reckonAll_39 : decode cX5_reckonAll 39 = .ok (.getfield 18, 3) := by decide +kernel
theorem dX5_reckonAll_42 : decode cX5_reckonAll 42 = .ok (.aload_n 0, 1) := by decide +kernel
theorem dX5_reckonAll_43 : decode cX5_reckonAll 43 = .ok (.getfield 21, 3) := by decide +kernel
theorem dX5_reckonAll_46 : decode cX5_reckonAll 46 = .ok (.invokevirtual 58, 3) := by decide +kernel
theorem dX5_reckonAll_49 : decode cX5_reckonAll 49 = .ok (.aload_n 0, 1) := by decide +kernel
theorem dX5_reckonAll_50 : decode cX5_reckonAll 50 = .ok (.getfield 35, 3) := by decide +kernel
theorem dX5_reckonAll_53 : decode cX5_reckonAll 53 = .ok (.aload_n 0, 1) := by decide +kernel
theorem dX5_reckonAll_54 : decode cX5_reckonAll 54 = .ok (.getfield 26, 3) := by decide +kernel
theorem dX5_reckonAll_57 : decode cX5_reckonAll 57 = .ok (.aload_n 0, 1) := by decide +kernel
theorem dX5_reckonAll_58 : decode cX5_reckonAll 58 = .ok (.getfield 29, 3) := by decide +kernel
theorem dX5_reckonAll_61 : decode cX5_reckonAll 61 = .ok (.aload_n 0, 1) := by decide +kernel
theorem dX5_reckonAll_62 : decode cX5_reckonAll 62 = .ok (.getfield 21, 3) := by decide +kernel
theorem dX5_reckonAll_65 : decode cX5_reckonAll 65 = .ok (.invokevirtual 62, 3) := by decide +kernel
theorem dX5_reckonAll_68 : decode cX5_reckonAll 68 = .ok (.return_, 1) := by decide +kernel
theorem dX5_chosen_0 : decode cX5_chosen 0 = .ok (.iload_n 1, 1) := by decide +kernel
theorem dX5_chosen_1 : decode cX5_chosen 1 = .ok (.tableswitch 42 0 2 #[27, 32, 37], 27) := by decide +kernel
theorem dX5_chosen_28 : decode cX5_chosen 28 = .ok (.aload_n 0, 1) := by decide +kernel
theorem dX5_chosen_29 : decode cX5_chosen 29 = .ok (.getfield 9, 3) := by decide +kernel
theorem dX5_chosen_32 : decode cX5_chosen 32 = .ok (.areturn, 1) := by decide +kernel
theorem dX5_chosen_33 : decode cX5_chosen 33 = .ok (.aload_n 0, 1) := by decide +kernel
theorem dX5_chosen_34 : decode cX5_chosen 34 = .ok (.getfield 15, 3) := by decide +kernel
theorem dX5_chosen_37 : decode cX5_chosen 37 = .ok (.areturn, 1) := by decide +kernel
theorem dX5_chosen_38 : decode cX5_chosen 38 = .ok (.aload_n 0, 1) := by decide +kernel
theorem dX5_chosen_39 : decode cX5_chosen 39 = .ok (.getfield 18, 3) := by decide +kernel
theorem dX5_chosen_42 : decode cX5_chosen 42 = .ok (.areturn, 1) := by decide +kernel
theorem dX5_chosen_43 : decode cX5_chosen 43 = .ok (.aload_n 0, 1) := by decide +kernel
theorem dX5_chosen_44 : decode cX5_chosen 44 = .ok (.getfield 21, 3) := by decide +kernel
theorem dX5_chosen_47 : decode cX5_chosen 47 = .ok (.areturn, 1) := by decide +kernel
theorem dX5_tell_0 : decode cX5_tell 0 = .ok (.aload_n 2, 1) := by decide +kernel
theorem dX5_tell_1 : decode cX5_tell 1 = .ok (.aload_n 0, 1) := by decide +kernel
theorem dX5_tell_2 : decode cX5_tell 2 = .ok (.getfield 32, 3) := by decide +kernel
theorem dX5_tell_5 : decode cX5_tell 5 = .ok (.invokestatic 46, 3) := by decide +kernel
theorem dX5_tell_8 : decode cX5_tell 8 = .ok (.bipush 8, 2) := by decide +kernel
theorem dX5_tell_10 : decode cX5_tell 10 = .ok (.istore_n 3, 1) := by decide +kernel
theorem dX5_tell_11 : decode cX5_tell 11 = .ok (.iload_n 3, 1) := by decide +kernel
theorem dX5_tell_12 : decode cX5_tell 12 = .ok (.ifCond .lt 55, 3) := by decide +kernel
theorem dX5_tell_15 : decode cX5_tell 15 = .ok (.aload_n 0, 1) := by decide +kernel
theorem dX5_tell_16 : decode cX5_tell 16 = .ok (.getfield 32, 3) := by decide +kernel
theorem dX5_tell_19 : decode cX5_tell 19 = .ok (.iload_n 3, 1) := by decide +kernel
theorem dX5_tell_20 : decode cX5_tell 20 = .ok (.iaload, 1) := by decide +kernel
theorem dX5_tell_21 : decode cX5_tell 21 = .ok (.aload_n 0, 1) := by decide +kernel
theorem dX5_tell_22 : decode cX5_tell 22 = .ok (.getfield 26, 3) := by decide +kernel
theorem dX5_tell_25 : decode cX5_tell 25 = .ok (.iload_n 3, 1) := by decide +kernel
theorem dX5_tell_26 : decode cX5_tell 26 = .ok (.aaload, 1) := by decide +kernel
theorem dX5_tell_27 : decode cX5_tell 27 = .ok (.iload_n 3, 1) := by decide +kernel
theorem dX5_tell_28 : decode cX5_tell 28 = .ok (.iaload, 1) := by decide +kernel
theorem dX5_tell_29 : decode cX5_tell 29 = .ok (.invokestatic 66, 3) := by decide +kernel
theorem dX5_tell_32 : decode cX5_tell 32 = .ok (.invokestatic 72, 3) := by decide +kernel
theorem dX5_tell_35 : decode cX5_tell 35 = .ok (.istore 4, 2) := by decide +kernel
theorem dX5_tell_37 : decode cX5_tell 37 = .ok (.aload_n 0, 1) := by decide +kernel
theorem dX5_tell_38 : decode cX5_tell 38 = .ok (.getfield 32, 3) := by decide +kernel
theorem dX5_tell_41 : decode cX5_tell 41 = .ok (.aload_n 0, 1) := by decide +kernel
theorem dX5_tell_42 : decode cX5_tell 42 = .ok (.getfield 26, 3) := by decide +kernel
theorem dX5_tell_45 : decode cX5_tell 45 = .ok (.iload_n 3, 1) := by decide +kernel
theorem dX5_tell_46 : decode cX5_tell 46 = .ok (.aaload, 1) := by decide +kernel
theorem dX5_tell_47 : decode cX5_tell 47 = .ok (.iconst 0, 1) := by decide +kernel
theorem dX5_tell_48 : decode cX5_tell 48 = .ok (.iload 4, 2) := by decide +kernel
theorem dX5_tell_50 : decode cX5_tell 50 = .ok (.invokestatic 76, 3) := by decide +kernel
theorem dX5_tell_53 : decode cX5_tell 53 = .ok (.invokestatic 79, 3) := by decide +kernel
theorem dX5_tell_56 : decode cX5_tell 56 = .ok (.aload_n 1, 1) := by decide +kernel
theorem dX5_tell_57 : decode cX5_tell 57 = .ok (.iload_n 3, 1) := by decide +kernel
theorem dX5_tell_58 : decode cX5_tell 58 = .ok (.iload 4, 2) := by decide +kernel
theorem dX5_tell_60 : decode cX5_tell 60 = .ok (.iastore, 1) := by decide +kernel
theorem dX5_tell_61 : decode cX5_tell 61 = .ok (.iinc 3 (-1), 3) := by decide +kernel
theorem dX5_tell_64 : decode cX5_tell 64 = .ok (.goto (-53), 3) := by decide +kernel
theorem dX5_tell_67 : decode cX5_tell 67 = .ok (.return_, 1) := by decide +kernel
theorem dX5_gather_0 : decode cX5_gather 0 = .ok (.aload_n 1, 1) := by decide +kernel
theorem dX5_gather_1 : decode cX5_gather 1 = .ok (.iconst 0, 1) := by decide +kernel
theorem dX5_gather_2 : decode cX5_gather 2 = .ok (.iconst 0, 1) := by decide +kernel
theorem dX5_gather_3 : decode cX5_gather 3 = .ok (.invokestatic 39, 3) := by decide +kernel
theorem dX5_gather_6 : decode cX5_gather 6 = .ok (.iconst 0, 1) := by decide +kernel
theorem dX5_gather_7 : decode cX5_gather 7 = .ok (.istore_n 3, 1) := by decide +kernel
theorem dX5_gather_8 : decode cX5_gather 8 = .ok (.iload_n 3, 1) := by decide +kernel
theorem dX5_gather_9 : decode cX5_gather 9 = .ok (.bipush 9, 2) := by decide +kernel
theorem dX5_gather_11 : decode cX5_gather 11 = .ok (.if_icmp .ge 22, 3) := by decide +kernel
theorem dX5_gather_14 : decode cX5_gather 14 = .ok (.aload_n 1, 1) := by decide +kernel
theorem dX5_gather_15 : decode cX5_gather 15 = .ok (.aload_n 0, 1) := by decide +kernel
theorem dX5_gather_16 : decode cX5_gather 16 = .ok (.getfield 26, 3) := by decide +kernel
theorem dX5_gather_19 : decode cX5_gather 19 = .ok (.iload_n 3, 1) := by decide +kernel
theorem dX5_gather_20 : decode cX5_gather 20 = .ok (.aaload, 1) := by decide +kernel
theorem dX5_gather_21 : decode cX5_gather 21 = .ok (.aload_n 2, 1) := by decide +kernel
theorem dX5_gather_22 : decode cX5_gather 22 = .ok (.iload_n 3, 1) := by decide +kernel
theorem dX5_gather_23 : decode cX5_gather 23 = .ok (.iaload, 1) := by decide +kernel
theorem dX5_gather_24 : decode cX5_gather 24 = .ok (.invokestatic 79, 3) := by decide +kernel
theorem dX5_gather_27 : decode cX5_gather 27 = .ok (.iinc 3 1, 3) := by decide +kernel
theorem dX5_gather_30 : decode cX5_gather 30 = .ok (.goto (-22), 3) := by decide +kernel
theorem dX5_gather_33 : decode cX5_gather 33 = .ok (.return_, 1) := by decide +kernel
theorem dX5_secondPower_0 : decode cX5_secondPower 0 = .ok (.iconst 2, 1) := by decide +kernel
theorem dX5_secondPower_1 : decode cX5_secondPower 1 = .ok (.istore_n 1, 1) := by decide +kernel
theorem dX5_secondPower_2 : decode cX5_secondPower 2 = .ok (.iload_n 1, 1) := by decide +kernel
theorem dX5_secondPower_3 : decode cX5_secondPower 3 = .ok (.bipush 9, 2) := by decide +kernel
theorem dX5_secondPower_5 : decode cX5_secondPower 5 = .ok (.if_icmp .ge 20, 3) := by decide +kernel
theorem dX5_secondPower_8 : decode cX5_secondPower 8 = .ok (.aload_n 0, 1) := by decide +kernel
theorem dX5_secondPower_9 : decode cX5_secondPower 9 = .ok (.getfield 15, 3) := by decide +kernel
theorem dX5_secondPower_12 : decode cX5_secondPower 12 = .ok (.iload_n 1, 1) := by decide +kernel
theorem dX5_secondPower_13 : decode cX5_secondPower 13 = .ok (.iaload, 1) := by decide +kernel
theorem dX5_secondPower_14 : decode cX5_secondPower 14 = .ok (.ifCond .eq 5, 3) := by decide +kernel
theorem dX5_secondPower_17 : decode cX5_secondPower 17 = .ok (.iload_n 1, 1) := by decide +kernel
theorem dX5_secondPower_18 : decode cX5_secondPower 18 = .ok (.ireturn, 1) := by decide +kernel
theorem dX5_secondPower_19 : decode cX5_secondPower 19 = .ok (.iinc 1 1, 3) := by decide +kernel
theorem dX5_secondPower_22 : decode cX5_secondPower 22 = .ok (.goto (-20), 3) := by decide +kernel
theorem dX5_secondPower_25 : decode cX5_secondPower 25 = .ok (.iconst (-1), 1) := by decide +kernel
theorem dX5_secondPower_26 : decode cX5_secondPower 26 = .ok (.ireturn, 1) := by decide +kernel
theorem dX6_init_0 : decode cX6_init 0 = .ok (.aload_n 0, 1) := by decide +kernel
theorem dX6_init_1 : decode cX6_init 1 = .ok (.invokespecial 3, 3) := by decide +kernel
theorem dX6_init_4 : decode cX6_init 4 = .ok (.aload_n 0, 1) := by decide +kernel
theorem dX6_init_5 : decode cX6_init 5 = .ok (.bipush 120, 2) := by decide +kernel
theorem dX6_init_7 : decode cX6_init 7 = .ok (.newarray .int, 2) := by decide +kernel
theorem dX6_init_9 : decode cX6_init 9 = .ok (.putfield 9, 3) := by decide +kernel
theorem dX6_init_12 : decode cX6_init 12 = .ok (.aload_n 0, 1) := by decide +kernel
theorem dX6_init_13 : decode cX6_init 13 = .ok (.bipush 120, 2) := by decide +kernel
theorem dX6_init_15 : decode cX6_init 15 = .ok (.newarray .int, 2) := by decide +kernel
theorem dX6_init_17 : decode cX6_init 17 = .ok (.putfield 15, 3) := by decide +kernel
theorem dX6_init_20 : decode cX6_init 20 = .ok (.aload_n 0, 1) := by decide +kernel
theorem dX6_init_21 : decode cX6_init 21 = .ok (.iconst 0, 1) := by decide +kernel
theorem dX6_init_22 : decode cX6_init 22 = .ok (.putfield 18, 3) := by decide +kernel
theorem dX6_init_25 : decode cX6_init 25 = .ok (.aload_n 0, 1) := by decide +kernel
theorem dX6_init_26 : decode cX6_init 26 = .ok (.iconst 0, 1) := by decide +kernel
theorem dX6_init_27 : decode cX6_init 27 = .ok (.putfield 22, 3) := by decide +kernel
theorem dX6_init_30 : decode cX6_init 30 = .ok (.aload_n 0, 1) := by decide +kernel
theorem dX6_init_31 : decode cX6_init 31 = .ok (.bipush 120, 2) := by decide +kernel
theorem dX6_init_33 : decode cX6_init 33 = .ok (.newarray .int, 2) := by decide +kernel
theorem dX6_init_35 : decode cX6_init 35 = .ok (.putfield 25, 3) := by decide +kernel
theorem dX6_init_38 : decode cX6_init 38 = .ok (.aload_n 0, 1) := by decide +kernel
theorem dX6_init_39 : decode cX6_init 39 = .ok (.iconst 0, 1) := by decide +kernel
theorem dX6_init_40 : decode cX6_init 40 = .ok (.putfield 28, 3) := by decide +kernel
theorem dX6_init_43 : decode cX6_init 43 = .ok (.aload_n 0, 1) := by decide +kernel
theorem dX6_init_44 : decode cX6_init 44 = .ok (.iconst 0, 1) := by decide +kernel
theorem dX6_init_45 : decode cX6_init 45 = .ok (.putfield 31, 3) := by decide +kernel
theorem dX6_init_48 : decode cX6_init 48 = .ok (.aload_n 0, 1) := by decide +kernel
theorem dX6_init_49 : decode cX6_init 49 = .ok (.iconst (-1), 1) := by decide +kernel
theorem dX6_init_50 : decode cX6_init 50 = .ok (.putfield 34, 3) := by decide +kernel
theorem dX6_init_53 : decode cX6_init 53 = .ok (.return_, 1) := by decide +kernel
theorem dX6_append_0 : decode cX6_append 0 = .ok (.aload_n 0, 1) := by decide +kernel
theorem dX6_append_1 : decode cX6_append 1 = .ok (.getfield 22, 3) := by decide +kernel
theorem dX6_append_4 : decode cX6_append 4 = .ok (.bipush 120, 2) := by decide +kernel
theorem dX6_append_6 : decode cX6_append 6 = .ok (.if_icmp .lt 5, 3) := by decide +kernel
theorem dX6_append_9 : decode cX6_append 9 = .ok (.iconst 0, 1) := by decide +kernel
theorem dX6_append_10 : decode cX6_append 10 = .ok (.ireturn, 1) := by decide +kernel
theorem dX6_append_11 : decode cX6_append 11 = .ok (.aload_n 0, 1) := by decide +kernel
theorem dX6_append_12 : decode cX6_append 12 = .ok (.getfield 25, 3) := by decide +kernel
theorem dX6_append_15 : decode cX6_append 15 = .ok (.aload_n 0, 1) := by decide +kernel
theorem dX6_append_16 : decode cX6_append 16 = .ok (.getfield 22, 3) := by decide +kernel
theorem dX6_append_19 : decode cX6_append 19 = .ok (.iload_n 1, 1) := by decide +kernel
theorem dX6_append_20 : decode cX6_append 20 = .ok (.iastore, 1) := by decide +kernel
theorem dX6_append_21 : decode cX6_append 21 = .ok (.aload_n 0, 1) := by decide +kernel
theorem dX6_append_22 : decode cX6_append 22 = .ok (.dup, 1) := by decide +kernel
theorem dX6_append_23 : decode cX6_append 23 = .ok (.getfield 22, 3) := by decide +kernel
theorem dX6_append_26 : decode cX6_append 26 = .ok (.iconst 1, 1) := by decide +kernel
theorem dX6_append_27 : decode cX6_append 27 = .ok (.iadd, 1) := by decide +kernel
theorem dX6_append_28 : decode cX6_append 28 = .ok (.putfield 22, 3) := by decide +kernel
theorem dX6_append_31 : decode cX6_append 31 = .ok (.iconst 1, 1) := by decide +kernel
theorem dX6_append_32 : decode cX6_append 32 = .ok (.ireturn, 1) := by decide +kernel
theorem dX6_clear_0 : decode cX6_clear 0 = .ok (.aload_n 0, 1) := by decide +kernel
theorem dX6_clear_1 : decode cX6_clear 1 = .ok (.iconst 0, 1) := by decide +kernel
theorem dX6_clear_2 : decode cX6_clear 2 = .ok (.putfield 22, 3) := by decide +kernel
theorem dX6_clear_5 : decode cX6_clear 5 = .ok (.return_, 1) := by decide +kernel
theorem dX6_firstFault_0 : decode cX6_firstFault 0 = .ok (.aload_n 0, 1) := by decide +kernel
theorem dX6_firstFault_1 : decode cX6_firstFault 1 = .ok (.iconst 0, 1) := by decide +kernel
theorem dX6_firstFault_2 : decode cX6_firstFault 2 = .ok (.putfield 18, 3) := by decide +kernel
theorem dX6_firstFault_5 : decode cX6_firstFault 5 = .ok (.aload_n 0, 1) := by decide +kernel
theorem dX6_firstFault_6 : decode cX6_firstFault 6 = .ok (.iconst 0, 1) := by decide +kernel
theorem dX6_firstFault_7 : decode cX6_firstFault 7 = .ok (.putfield 31, 3) := by decide +kernel
theorem dX6_firstFault_10 : decode cX6_firstFault 10 = .ok (.aload_n 0, 1) := by decide +kernel
theorem dX6_firstFault_11 : decode cX6_firstFault 11 = .ok (.invokevirtual 37, 3) := by decide +kernel
theorem dX6_firstFault_14 : decode cX6_firstFault 14 = .ok (.aload_n 0, 1) := by decide +kernel
theorem dX6_firstFault_15 : decode cX6_firstFault 15 = .ok (.iconst 0, 1) := by decide +kernel
theorem dX6_firstFault_16 : decode cX6_firstFault 16 = .ok (.invokevirtual 40, 3) := by decide +kernel
theorem dX6_firstFault_19 : decode cX6_firstFault 19 = .ok (.ifCond .eq 12, 3) := by decide +kernel
theorem dX6_firstFault_22 : decode cX6_firstFault 22 = .ok (.aload_n 0, 1) := by decide +kernel
theorem dX6_firstFault_23 : decode cX6_firstFault 23 = .ok (.getfield 34, 3) := by decide +kernel
theorem dX6_firstFault_26 : decode cX6_firstFault 26 = .ok (.bipush 59, 2) := by decide +kernel
theorem dX6_firstFault_28 : decode cX6_firstFault 28 = .ok (.if_icmp .eq 8, 3) := by decide +kernel
theorem dX6_firstFault_31 : decode cX6_firstFault 31 = .ok (.aload_n 0, 1) := by decide +kernel
theorem dX6_firstFault_32 : decode cX6_firstFault 32 = .ok (.getfield 28, 3) := by decide +kernel
theorem dX6_firstFault_35 : decode cX6_firstFault 35 = .ok (.ireturn, 1) := by decide +kernel
theorem dX6_firstFault_36 : decode cX6_firstFault 36 = .ok (.aload_n 0, 1) := by decide +kernel
theorem dX6_firstFault_37 : decode cX6_firstFault 37 = .ok (.invokevirtual 37, 3) := by decide +kernel
theorem dX6_firstFault_40 : decode cX6_firstFault 40 = .ok (.aload_n 0, 1) := by decide +kernel
theorem dX6_firstFault_41 : decode cX6_firstFault 41 = .ok (.iconst 0, 1) := by decide +kernel
theorem dX6_firstFault_42 : decode cX6_firstFault 42 = .ok (.invokevirtual 40, 3) := by decide +kernel
theorem dX6_firstFault_45 : decode cX6_firstFault 45 = .ok (.ifCond .eq 18, 3) := by decide +kernel
theorem dX6_firstFault_48 : decode cX6_firstFault 48 = .ok (.aload_n 0, 1) := by decide +kernel
theorem dX6_firstFault_49 : decode cX6_firstFault 49 = .ok (.getfield 28, 3) := by decide +kernel
theorem dX6_firstFault_52 : decode cX6_firstFault 52 = .ok (.aload_n 0, 1) := by decide +kernel
theorem dX6_firstFault_53 : decode cX6_firstFault 53 = .ok (.getfield 22, 3) := by decide +kernel
theorem dX6_firstFault_56 : decode cX6_firstFault 56 = .ok (.if_icmp .ne 7, 3) := by decide +kernel
theorem dX6_firstFault_59 : decode cX6_firstFault 59 = .ok (.iconst (-1), 1) := by decide +kernel
theorem dX6_firstFault_60 : decode cX6_firstFault 60 = .ok (.goto 7, 3) := by decide +kernel
theorem dX6_firstFault_63 : decode cX6_firstFault 63 = .ok (.aload_n 0, 1) := by decide +kernel
theorem dX6_firstFault_64 : decode cX6_firstFault 64 = .ok (.getfield 28, 3) := by decide +kernel
theorem dX6_firstFault_67 : decode cX6_firstFault 67 = .ok (.ireturn, 1) := by decide +kernel
theorem dX6_standsSum_0 : decode cX6_standsSum 0 = .ok (.aload_n 0, 1) := by decide +kernel
theorem dX6_standsSum_1 : decode cX6_standsSum 1 = .ok (.iload_n 1, 1) := by decide +kernel
theorem dX6_standsSum_2 : decode cX6_standsSum 2 = .ok (.invokevirtual 44, 3) := by decide +kernel
theorem dX6_standsSum_5 : decode cX6_standsSum 5 = .ok (.ifCond .ne 5, 3) := by decide +kernel
theorem dX6_standsSum_8 : decode cX6_standsSum 8 = .ok (.iconst 0, 1) := by decide +kernel
theorem dX6_standsSum_9 : decode cX6_standsSum 9 = .ok (.ireturn, 1) := by decide +kernel
theorem dX6_standsSum_10 : decode cX6_standsSum 10 = .ok (.iconst 0, 1) := by decide +kernel
theorem dX6_standsSum_11 : decode cX6_standsSum 11 = .ok (.istore_n 2, 1) := by decide +kernel
theorem dX6_standsSum_12 : decode cX6_standsSum 12 = .ok (.iload_n 2, 1) := by decide +kernel
theorem dX6_standsSum_13 : decode cX6_standsSum 13 = .ok (.bipush 120, 2) := by decide +kernel
theorem dX6_standsSum_15 : decode cX6_standsSum 15 = .ok (.if_icmp .ge 52, 3) := by decide +kernel
theorem dX6_standsSum_18 : decode cX6_standsSum 18 = .ok (.aload_n 0, 1) := by decide +kernel
theorem dX6_standsSum_19 : decode cX6_standsSum 19 = .ok (.getfield 34, 3) := by decide +kernel
theorem dX6_standsSum_22 : decode cX6_standsSum 22 = .ok (.bipush 43, 2) := by decide +kernel
theorem dX6_standsSum_24 : decode cX6_standsSum 24 = .ok (.if_icmp .eq 12, 3) := by decide +kernel
theorem dX6_standsSum_27 : decode cX6_standsSum 27 = .ok (.aload_n 0, 1) := by decide +kernel
theorem dX6_standsSum_28 : decode cX6_standsSum 28 = .ok (.getfield 34, 3) := by decide +kernel
theorem dX6_standsSum_31 : decode cX6_standsSum 31 = .ok (.bipush 45, 2) := by decide +kernel
theorem dX6_standsSum_33 : decode cX6_standsSum 33 = .ok (.if_icmp .ne 34, 3) := by decide +kernel
theorem dX6_standsSum_36 : decode cX6_standsSum 36 = .ok (.aload_n 0, 1) := by decide +kernel
theorem dX6_standsSum_37 : decode cX6_standsSum 37 = .ok (.getfield 34, 3) := by decide +kernel
theorem dX6_standsSum_40 : decode cX6_standsSum 40 = .ok (.istore_n 3, 1) := by decide +kernel
theorem dX6_standsSum_41 : decode cX6_standsSum 41 = .ok (.aload_n 0, 1) := by decide +kernel
theorem dX6_standsSum_42 : decode cX6_standsSum 42 = .ok (.invokevirtual 37, 3) := by decide +kernel
theorem dX6_standsSum_45 : decode cX6_standsSum 45 = .ok (.aload_n 0, 1) := by decide +kernel
theorem dX6_standsSum_46 : decode cX6_standsSum 46 = .ok (.iload_n 1, 1) := by decide +kernel
theorem dX6_standsSum_47 : decode cX6_standsSum 47 = .ok (.invokevirtual 44, 3) := by decide +kernel
theorem dX6_standsSum_50 : decode cX6_standsSum 50 = .ok (.ifCond .ne 5, 3) := by decide +kernel
theorem dX6_standsSum_53 : decode cX6_standsSum 53 = .ok (.iconst 0, 1) := by decide +kernel
theorem dX6_standsSum_54 : decode cX6_standsSum 54 = .ok (.ireturn, 1) := by decide +kernel
theorem dX6_standsSum_55 : decode cX6_standsSum 55 = .ok (.aload_n 0, 1) := by decide +kernel
theorem dX6_standsSum_56 : decode cX6_standsSum 56 = .ok (.iload_n 3, 1) := by decide +kernel
theorem dX6_standsSum_57 : decode cX6_standsSum 57 = .ok (.iconst 0, 1) := by decide +kernel
theorem dX6_standsSum_58 : decode cX6_standsSum 58 = .ok (.invokevirtual 47, 3) := by decide +kernel
theorem dX6_standsSum_61 : decode cX6_standsSum 61 = .ok (.iinc 2 1, 3) := by decide +kernel
theorem dX6_standsSum_64 : decode cX6_standsSum 64 = .ok (.goto (-52), 3) := by decide +kernel
theorem dX6_standsSum_67 : decode cX6_standsSum 67 = .ok (.iconst 1, 1) := by decide +kernel
theorem dX6_standsSum_68 : decode cX6_standsSum 68 = .ok (.ireturn, 1) := by decide +kernel
theorem dX6_standsProduct_0 : decode cX6_standsProduct 0 = .ok (.aload_n 0, 1) := by decide +kernel
theorem dX6_standsProduct_1 : decode cX6_standsProduct 1 = .ok (.iload_n 1, 1) := by decide +kernel
theorem dX6_standsProduct_2 : decode cX6_standsProduct 2 = .ok (.invokevirtual 51, 3) := by decide +kernel
theorem dX6_standsProduct_5 : decode cX6_standsProduct 5 = .ok (.ifCond .ne 5, 3) := by decide +kernel
theorem dX6_standsProduct_8 : decode cX6_standsProduct 8 = .ok (.iconst 0, 1) := by decide +kernel
theorem dX6_standsProduct_9 : decode cX6_standsProduct 9 = .ok (.ireturn, 1) := by decide +kernel
theorem dX6_standsProduct_10 : decode cX6_standsProduct 10 = .ok (.iconst 0, 1) := by decide +kernel
theorem dX6_standsProduct_11 : decode cX6_standsProduct 11 = .ok (.istore_n 2, 1) := by decide +kernel
theorem dX6_standsProduct_12 : decode cX6_standsProduct 12 = .ok (.iload_n 2, 1) := by decide +kernel
theorem dX6_standsProduct_13 : decode cX6_standsProduct 13 = .ok (.bipush 120, 2) := by decide +kernel
theorem dX6_standsProduct_15 : decode cX6_standsProduct 15 = .ok (.if_icmp .ge 52, 3) := by decide +kernel
theorem dX6_standsProduct_18 : decode cX6_standsProduct 18 = .ok (.aload_n 0, 1) := by decide +kernel
theorem dX6_standsProduct_19 : decode cX6_standsProduct 19 = .ok (.getfield 34, 3) := by decide +kernel
theorem dX6_standsProduct_22 : decode cX6_standsProduct 22 = .ok (.bipush 42, 2) := by decide +kernel
theorem dX6_standsProduct_24 : decode cX6_standsProduct 24 = .ok (.if_icmp .eq 12, 3) := by decide +kernel
theorem dX6_standsProduct_27 : decode cX6_standsProduct 27 = .ok (.aload_n 0, 1) := by decide +kernel
theorem dX6_standsProduct_28 : decode cX6_standsProduct 28 = .ok (.getfield 34, 3) := by decide +kernel
theorem dX6_standsProduct_31 : decode cX6_standsProduct 31 = .ok (.bipush 47, 2) := by decide +kernel
theorem dX6_standsProduct_33 : decode cX6_standsProduct 33 = .ok (.if_icmp .ne 34, 3) := by decide +kernel
theorem dX6_standsProduct_36 : decode cX6_standsProduct 36 = .ok (.aload_n 0, 1) := by decide +kernel
theorem dX6_standsProduct_37 : decode cX6_standsProduct 37 = .ok (.getfield 34, 3) := by decide +kernel
theorem dX6_standsProduct_40 : decode cX6_standsProduct 40 = .ok (.istore_n 3, 1) := by decide +kernel
theorem dX6_standsProduct_41 : decode cX6_standsProduct 41 = .ok (.aload_n 0, 1) := by decide +kernel
theorem dX6_standsProduct_42 : decode cX6_standsProduct 42 = .ok (.invokevirtual 37, 3) := by decide +kernel
theorem dX6_standsProduct_45 : decode cX6_standsProduct 45 = .ok (.aload_n 0, 1) := by decide +kernel
theorem dX6_standsProduct_46 : decode cX6_standsProduct 46 = .ok (.iload_n 1, 1) := by decide +kernel
theorem dX6_standsProduct_47 : decode cX6_standsProduct 47 = .ok (.invokevirtual 51, 3) := by decide +kernel
theorem dX6_standsProduct_50 : decode cX6_standsProduct 50 = .ok (.ifCond .ne 5, 3) := by decide +kernel
theorem dX6_standsProduct_53 : decode cX6_standsProduct 53 = .ok (.iconst 0, 1) := by decide +kernel
theorem dX6_standsProduct_54 : decode cX6_standsProduct 54 = .ok (.ireturn, 1) := by decide +kernel
theorem dX6_standsProduct_55 : decode cX6_standsProduct 55 = .ok (.aload_n 0, 1) := by decide +kernel
theorem dX6_standsProduct_56 : decode cX6_standsProduct 56 = .ok (.iload_n 3, 1) := by decide +kernel
theorem dX6_standsProduct_57 : decode cX6_standsProduct 57 = .ok (.iconst 0, 1) := by decide +kernel
theorem dX6_standsProduct_58 : decode cX6_standsProduct 58 = .ok (.invokevirtual 47, 3) := by decide +kernel
theorem dX6_standsProduct_61 : decode cX6_standsProduct 61 = .ok (.iinc 2 1, 3) := by decide +kernel
theorem dX6_standsProduct_64 : decode cX6_standsProduct 64 = .ok (.goto (-52), 3) := by decide +kernel
theorem dX6_standsProduct_67 : decode cX6_standsProduct 67 = .ok (.iconst 1, 1) := by decide +kernel
theorem dX6_standsProduct_68 : decode cX6_standsProduct 68 = .ok (.ireturn, 1) := by decide +kernel
theorem dX6_standsPower_0 : decode cX6_standsPower 0 = .ok (.aload_n 0, 1) := by decide +kernel
theorem dX6_standsPower_1 : decode cX6_standsPower 1 = .ok (.iload_n 1, 1) := by decide +kernel
theorem dX6_standsPower_2 : decode cX6_standsPower 2 = .ok (.invokevirtual 54, 3) := by decide +kernel
theorem dX6_standsPower_5 : decode cX6_standsPower 5 = .ok (.ifCond .ne 5, 3) := by decide +kernel
theorem dX6_standsPower_8 : decode cX6_standsPower 8 = .ok (.iconst 0, 1) := by decide +kernel
theorem dX6_standsPower_9 : decode cX6_standsPower 9 = .ok (.ireturn, 1) := by decide +kernel
theorem dX6_standsPower_10 : decode cX6_standsPower 10 = .ok (.aload_n 0, 1) := by decide +kernel
theorem dX6_standsPower_11 : decode cX6_standsPower 11 = .ok (.getfield 34, 3) := by decide +kernel
theorem dX6_standsPower_14 : decode cX6_standsPower 14 = .ok (.bipush 94, 2) := by decide +kernel
theorem dX6_standsPower_16 : decode cX6_standsPower 16 = .ok (.if_icmp .eq 5, 3) := by decide +kernel
theorem dX6_standsPower_19 : decode cX6_standsPower 19 = .ok (.iconst 1, 1) := by decide +kernel
theorem dX6_standsPower_20 : decode cX6_standsPower 20 = .ok (.ireturn, 1) := by decide +kernel
theorem dX6_standsPower_21 : decode cX6_standsPower 21 = .ok (.aload_n 0, 1) := by decide +kernel
theorem dX6_standsPower_22 : decode cX6_standsPower 22 = .ok (.invokevirtual 37, 3) := by decide +kernel
theorem dX6_standsPower_25 : decode cX6_standsPower 25 = .ok (.aload_n 0, 1) := by decide +kernel
theorem dX6_standsPower_26 : decode cX6_standsPower 26 = .ok (.getfield 34, 3) := by decide +kernel
theorem dX6_standsPower_29 : decode cX6_standsPower 29 = .ok (.invokestatic 57, 3) := by decide +kernel
theorem dX6_standsPower_32 : decode cX6_standsPower 32 = .ok (.ifCond .eq 16, 3) := by decide +kernel
theorem dX6_standsPower_35 : decode cX6_standsPower 35 = .ok (.aload_n 0, 1) := by decide +kernel
theorem dX6_standsPower_36 : decode cX6_standsPower 36 = .ok (.getfield 31, 3) := by decide +kernel
theorem dX6_standsPower_39 : decode cX6_standsPower 39 = .ok (.aload_n 0, 1) := by decide +kernel
theorem dX6_standsPower_40 : decode cX6_standsPower 40 = .ok (.getfield 28, 3) := by decide +kernel
theorem dX6_standsPower_43 : decode cX6_standsPower 43 = .ok (.isub, 1) := by decide +kernel
theorem dX6_standsPower_44 : decode cX6_standsPower 44 = .ok (.iconst 1, 1) := by decide +kernel
theorem dX6_standsPower_45 : decode cX6_standsPower 45 = .ok (.if_icmp .eq 5, 3) := by decide +kernel
theorem dX6_standsPower_48 : decode cX6_standsPower 48 = .ok (.iconst 0, 1) := by decide +kernel
theorem dX6_standsPower_49 : decode cX6_standsPower 49 = .ok (.ireturn, 1) := by decide +kernel
theorem dX6_standsPower_50 : decode cX6_standsPower 50 = .ok (.aload_n 0, 1) := by decide +kernel
theorem dX6_standsPower_51 : decode cX6_standsPower 51 = .ok (.bipush 94, 2) := by decide +kernel
theorem dX6_standsPower_53 : decode cX6_standsPower 53 = .ok (.aload_n 0, 1) := by decide +kernel
theorem dX6_standsPower_54 : decode cX6_standsPower 54 = .ok (.invokevirtual 60, 3) := by decide +kernel
theorem dX6_standsPower_57 : decode cX6_standsPower 57 = .ok (.invokevirtual 47, 3) := by decide +kernel
theorem dX6_standsPower_60 : decode cX6_standsPower 60 = .ok (.aload_n 0, 1) := by decide +kernel
theorem dX6_standsPower_61 : decode cX6_standsPower 61 = .ok (.invokevirtual 37, 3) := by decide +kernel
theorem dX6_standsPower_64 : decode cX6_standsPower 64 = .ok (.iconst 1, 1) := by decide +kernel
theorem dX6_standsPower_65 : decode cX6_standsPower 65 = .ok (.ireturn, 1) := by decide +kernel
theorem dX6_standsThing_0 : decode cX6_standsThing 0 = .ok (.aload_n 0, 1) := by decide +kernel
theorem dX6_standsThing_1 : decode cX6_standsThing 1 = .ok (.getfield 34, 3) := by decide +kernel
theorem dX6_standsThing_4 : decode cX6_standsThing 4 = .ok (.bipush 116, 2) := by decide +kernel
theorem dX6_standsThing_6 : decode cX6_standsThing 6 = .ok (.if_icmp .ne 16, 3) := by decide +kernel
theorem dX6_standsThing_9 : decode cX6_standsThing 9 = .ok (.aload_n 0, 1) := by decide +kernel
theorem dX6_standsThing_10 : decode cX6_standsThing 10 = .ok (.bipush 116, 2) := by decide +kernel
theorem dX6_standsThing_12 : decode cX6_standsThing 12 = .ok (.iconst 0, 1) := by decide +kernel
theorem dX6_standsThing_13 : decode cX6_standsThing 13 = .ok (.invokevirtual 47, 3) := by decide +kernel
theorem dX6_standsThing_16 : decode cX6_standsThing 16 = .ok (.aload_n 0, 1) := by decide +kernel
theorem dX6_standsThing_17 : decode cX6_standsThing 17 = .ok (.invokevirtual 37, 3) := by decide +kernel
theorem dX6_standsThing_20 : decode cX6_standsThing 20 = .ok (.iconst 1, 1) := by decide +kernel
theorem dX6_standsThing_21 : decode cX6_standsThing 21 = .ok (.ireturn, 1) := by decide +kernel
theorem dX6_standsThing_22 : decode cX6_standsThing 22 = .ok (.aload_n 0, 1) := by decide +kernel
theorem dX6_standsThing_23 : decode cX6_standsThing 23 = .ok (.getfield 34, 3) := by decide +kernel
theorem dX6_standsThing_26 : decode cX6_standsThing 26 = .ok (.invokestatic 57, 3) := by decide +kernel
theorem dX6_standsThing_29 : decode cX6_standsThing 29 = .ok (.ifCond .eq 28, 3) := by decide +kernel
theorem dX6_standsThing_32 : decode cX6_standsThing 32 = .ok (.aload_n 0, 1) := by decide +kernel
theorem dX6_standsThing_33 : decode cX6_standsThing 33 = .ok (.invokevirtual 64, 3) := by decide +kernel
theorem dX6_standsThing_36 : decode cX6_standsThing 36 = .ok (.ifCond .ne 5, 3) := by decide +kernel
theorem dX6_standsThing_39 : decode cX6_standsThing 39 = .ok (.iconst 0, 1) := by decide +kernel
theorem dX6_standsThing_40 : decode cX6_standsThing 40 = .ok (.ireturn, 1) := by decide +kernel
theorem dX6_standsThing_41 : decode cX6_standsThing 41 = .ok (.aload_n 0, 1) := by decide +kernel
theorem dX6_standsThing_42 : decode cX6_standsThing 42 = .ok (.bipush 48, 2) := by decide +kernel
theorem dX6_standsThing_44 : decode cX6_standsThing 44 = .ok (.aload_n 0, 1) := by decide +kernel
theorem dX6_standsThing_45 : decode cX6_standsThing 45 = .ok (.invokevirtual 60, 3) := by decide +kernel
theorem dX6_standsThing_48 : decode cX6_standsThing 48 = .ok (.invokevirtual 47, 3) := by decide +kernel
theorem dX6_standsThing_51 : decode cX6_standsThing 51 = .ok (.aload_n 0, 1) := by decide +kernel
theorem dX6_standsThing_52 : decode cX6_standsThing 52 = .ok (.invokevirtual 37, 3) := by decide +kernel
theorem dX6_standsThing_55 : decode cX6_standsThing 55 = .ok (.iconst 1, 1) := by decide +kernel
theorem dX6_standsThing_56 : decode cX6_standsThing 56 = .ok (.ireturn, 1) := by decide +kernel
theorem dX6_standsThing_57 : decode cX6_standsThing 57 = .ok (.aload_n 0, 1) := by decide +kernel
theorem dX6_standsThing_58 : decode cX6_standsThing 58 = .ok (.getfield 34, 3) := by decide +kernel
theorem dX6_standsThing_61 : decode cX6_standsThing 61 = .ok (.istore_n 2, 1) := by decide +kernel
theorem dX6_standsThing_62 : decode cX6_standsThing 62 = .ok (.iload_n 2, 1) := by decide +kernel
theorem dX6_standsThing_63 : decode cX6_standsThing 63 = .ok (.invokestatic 68, 3) := by decide +kernel
theorem dX6_standsThing_66 : decode cX6_standsThing 66 = .ok (.ifCond .eq 7, 3) := by decide +kernel
theorem dX6_standsThing_69 : decode cX6_standsThing 69 = .ok (.aload_n 0, 1) := by decide +kernel
theorem dX6_standsThing_70 : decode cX6_standsThing 70 = .ok (.invokevirtual 37, 3) := by decide +kernel
theorem dX6_standsThing_73 : decode cX6_standsThing 73 = .ok (.aload_n 0, 1) := by decide +kernel
theorem dX6_standsThing_74 : decode cX6_standsThing 74 = .ok (.getfield 34, 3) := by decide +kernel
theorem dX6_standsThing_77 : decode cX6_standsThing 77 = .ok (.bipush 40, 2) := by decide +kernel
theorem dX6_standsThing_79 : decode cX6_standsThing 79 = .ok (.if_icmp .ne 9, 3) := by decide +kernel
theorem dX6_standsThing_82 : decode cX6_standsThing 82 = .ok (.iload_n 1, 1) := by decide +kernel
theorem dX6_standsThing_83 : decode cX6_standsThing 83 = .ok (.bipush 6, 2) := by decide +kernel
theorem dX6_standsThing_85 : decode cX6_standsThing 85 = .ok (.if_icmp .lt 5, 3) := by decide +kernel
theorem dX6_standsThing_88 : decode cX6_standsThing 88 = .ok (.iconst 0, 1) := by decide +kernel
theorem dX6_standsThing_89 : decode cX6_standsThing 89 = .ok (.ireturn, 1) := by decide +kernel
theorem dX6_standsThing_90 : decode cX6_standsThing 90 = .ok (.aload_n 0, 1) := by decide +kernel
theorem dX6_standsThing_91 : decode cX6_standsThing 91 = .ok (.invokevirtual 37, 3) := by decide +kernel
theorem dX6_standsThing_94 : decode cX6_standsThing 94 = .ok (.aload_n 0, 1) := by decide +kernel
theorem dX6_standsThing_95 : decode cX6_standsThing 95 = .ok (.iload_n 1, 1) := by decide +kernel
theorem dX6_standsThing_96 : decode cX6_standsThing 96 = .ok (.iconst 1, 1) := by decide +kernel
theorem dX6_standsThing_97 : decode cX6_standsThing 97 = .ok (.iadd, 1) := by decide +kernel
theorem dX6_standsThing_98 : decode cX6_standsThing 98 = .ok (.invokevirtual 40, 3) := by decide +kernel
theorem dX6_standsThing_101 : decode cX6_standsThing 101 = .ok (.ifCond .eq 12, 3) := by decide +kernel
theorem dX6_standsThing_104 : decode cX6_standsThing 104 = .ok (.aload_n 0, 1) := by decide +kernel
theorem dX6_standsThing_105 : decode cX6_standsThing 105 = .ok (.getfield 34, 3) := by decide +kernel
theorem dX6_standsThing_108 : decode cX6_standsThing 108 = .ok (.bipush 41, 2) := by decide +kernel
theorem dX6_standsThing_110 : decode cX6_standsThing 110 = .ok (.if_icmp .eq 5, 3) := by decide +kernel
theorem dX6_standsThing_113 : decode cX6_standsThing 113 = .ok (.iconst 0, 1) := by decide +kernel
theorem dX6_standsThing_114 : decode cX6_standsThing 114 = .ok (.ireturn, 1) := by decide +kernel
theorem dX6_standsThing_115 : decode cX6_standsThing 115 = .ok (.aload_n 0, 1) := by decide +kernel
theorem dX6_standsThing_116 : decode cX6_standsThing 116 = .ok (.invokevirtual 37, 3) := by decide +kernel
theorem dX6_standsThing_119 : decode cX6_standsThing 119 = .ok (.iload_n 2, 1) := by decide +kernel
theorem dX6_standsThing_120 : decode cX6_standsThing 120 = .ok (.invokestatic 68, 3) := by decide +kernel
theorem dX6_standsThing_123 : decode cX6_standsThing 123 = .ok (.ifCond .eq 9, 3) := by decide +kernel
theorem dX6_standsThing_126 : decode cX6_standsThing 126 = .ok (.aload_n 0, 1) := by decide +kernel
theorem dX6_standsThing_127 : decode cX6_standsThing 127 = .ok (.iload_n 2, 1) := by decide +kernel
theorem dX6_standsThing_128 : decode cX6_standsThing 128 = .ok (.iconst 0, 1) := by decide +kernel
theorem dX6_standsThing_129 : decode cX6_standsThing 129 = .ok (.invokevirtual 47, 3) := by decide +kernel
theorem dX6_standsThing_132 : decode cX6_standsThing 132 = .ok (.iconst 1, 1) := by decide +kernel
theorem dX6_standsThing_133 : decode cX6_standsThing 133 = .ok (.ireturn, 1) := by decide +kernel
theorem dX6_toNextToken_0 : decode cX6_toNextToken 0 = .ok (.aload_n 0, 1) := by decide +kernel
theorem dX6_toNextToken_1 : decode cX6_toNextToken 1 = .ok (.aload_n 0, 1) := by decide +kernel
theorem dX6_toNextToken_2 : decode cX6_toNextToken 2 = .ok (.getfield 31, 3) := by decide +kernel
theorem dX6_toNextToken_5 : decode cX6_toNextToken 5 = .ok (.putfield 28, 3) := by decide +kernel
theorem dX6_toNextToken_8 : decode cX6_toNextToken 8 = .ok (.aload_n 0, 1) := by decide +kernel
theorem dX6_toNextToken_9 : decode cX6_toNextToken 9 = .ok (.getfield 28, 3) := by decide +kernel
theorem dX6_toNextToken_12 : decode cX6_toNextToken 12 = .ok (.aload_n 0, 1) := by decide +kernel
theorem dX6_toNextToken_13 : decode cX6_toNextToken 13 = .ok (.getfield 22, 3) := by decide +kernel
theorem dX6_toNextToken_16 : decode cX6_toNextToken 16 = .ok (.if_icmp .ge 30, 3) := by decide +kernel
theorem dX6_toNextToken_19 : decode cX6_toNextToken 19 = .ok (.aload_n 0, 1) := by decide +kernel
theorem dX6_toNextToken_20 : decode cX6_toNextToken 20 = .ok (.getfield 25, 3) := by decide +kernel
theorem dX6_toNextToken_23 : decode cX6_toNextToken 23 = .ok (.aload_n 0, 1) := by decide +kernel
theorem dX6_toNextToken_24 : decode cX6_toNextToken 24 = .ok (.getfield 28, 3) := by decide +kernel
theorem dX6_toNextToken_27 : decode cX6_toNextToken 27 = .ok (.iaload, 1) := by decide +kernel
theorem dX6_toNextToken_28 : decode cX6_toNextToken 28 = .ok (.bipush 32, 2) := by decide +kernel
theorem dX6_toNextToken_30 : decode cX6_toNextToken 30 = .ok (.if_icmp .ne 16, 3) := by decide +kernel
theorem dX6_toNextToken_33 : decode cX6_toNextToken 33 = .ok (.aload_n 0, 1) := by decide +kernel
theorem dX6_toNextToken_34 : decode cX6_toNextToken 34 = .ok (.dup, 1) := by decide +kernel
theorem dX6_toNextToken_35 : decode cX6_toNextToken 35 = .ok (.getfield 28, 3) := by decide +kernel
theorem dX6_toNextToken_38 : decode cX6_toNextToken 38 = .ok (.iconst 1, 1) := by decide +kernel
theorem dX6_toNextToken_39 : decode cX6_toNextToken 39 = .ok (.iadd, 1) := by decide +kernel
theorem dX6_toNextToken_40 : decode cX6_toNextToken 40 = .ok (.putfield 28, 3) := by decide +kernel
theorem dX6_toNextToken_43 : decode cX6_toNextToken 43 = .ok (.goto (-35), 3) := by decide +kernel
theorem dX6_toNextToken_46 : decode cX6_toNextToken 46 = .ok (.aload_n 0, 1) := by decide +kernel
theorem dX6_toNextToken_47 : decode cX6_toNextToken 47 = .ok (.getfield 28, 3) := by decide +kernel
theorem dX6_toNextToken_50 : decode cX6_toNextToken 50 = .ok (.aload_n 0, 1) := by decide +kernel
theorem dX6_toNextToken_51 : decode cX6_toNextToken 51 = .ok (.getfield 22, 3) := by decide +kernel
theorem dX6_toNextToken_54 : decode cX6_toNextToken 54 = .ok (.if_icmp .lt 9, 3) := by decide +kernel
theorem dX6_toNextToken_57 : decode cX6_toNextToken 57 = .ok (.aload_n 0, 1) := by decide +kernel
theorem dX6_toNextToken_58 : decode cX6_toNextToken 58 = .ok (.iconst (-1), 1) := by decide +kernel
theorem dX6_toNextToken_59 : decode cX6_toNextToken 59 = .ok (.putfield 34, 3) := by decide +kernel
theorem dX6_toNextToken_62 : decode cX6_toNextToken 62 = .ok (.return_, 1) := by decide +kernel
theorem dX6_toNextToken_63 : decode cX6_toNextToken 63 = .ok (.aload_n 0, 1) := by decide +kernel
theorem dX6_toNextToken_64 : decode cX6_toNextToken 64 = .ok (.aload_n 0, 1) := by decide +kernel
theorem dX6_toNextToken_65 : decode cX6_toNextToken 65 = .ok (.getfield 25, 3) := by decide +kernel
theorem dX6_toNextToken_68 : decode cX6_toNextToken 68 = .ok (.aload_n 0, 1) := by decide +kernel
theorem dX6_toNextToken_69 : decode cX6_toNextToken 69 = .ok (.getfield 28, 3) := by decide +kernel
theorem dX6_toNextToken_72 : decode cX6_toNextToken 72 = .ok (.iaload, 1) := by decide +kernel
theorem dX6_toNextToken_73 : decode cX6_toNextToken 73 = .ok (.putfield 34, 3) := by decide +kernel
theorem dX6_toNextToken_76 : decode cX6_toNextToken 76 = .ok (.aload_n 0, 1) := by decide +kernel
theorem dX6_toNextToken_77 : decode cX6_toNextToken 77 = .ok (.aload_n 0, 1) := by decide +kernel
theorem dX6_toNextToken_78 : decode cX6_toNextToken 78 = .ok (.getfield 28, 3) := by decide +kernel
theorem dX6_toNextToken_81 : decode cX6_toNextToken 81 = .ok (.iconst 1, 1) := by decide +kernel
theorem dX6_toNextToken_82 : decode cX6_toNextToken 82 = .ok (.iadd, 1) := by decide +kernel
theorem dX6_toNextToken_83 : decode cX6_toNextToken 83 = .ok (.putfield 31, 3) := by decide +kernel
theorem dX6_toNextToken_86 : decode cX6_toNextToken 86 = .ok (.aload_n 0, 1) := by decide +kernel
theorem dX6_toNextToken_87 : decode cX6_toNextToken 87 = .ok (.getfield 34, 3) := by decide +kernel
theorem dX6_toNextToken_90 : decode cX6_toNextToken 90 = .ok (.invokestatic 57, 3) := by decide +kernel
theorem dX6_toNextToken_93 : decode cX6_toNextToken 93 = .ok (.ifCond .eq 42, 3) := by decide +kernel
theorem dX6_toNextToken_96 : decode cX6_toNextToken 96 = .ok (.aload_n 0, 1) := by decide +kernel
theorem dX6_toNextToken_97 : decode cX6_toNextToken 97 = .ok (.getfield 31, 3) := by decide +kernel
theorem dX6_toNextToken_100 : decode cX6_toNextToken 100 = .ok (.aload_n 0, 1) := by decide +kernel
theorem dX6_toNextToken_101 : decode cX6_toNextToken 101 = .ok (.getfield 22, 3) := by decide +kernel
theorem dX6_toNextToken_104 : decode cX6_toNextToken 104 = .ok (.if_icmp .ge 31, 3) := by decide +kernel
theorem dX6_toNextToken_107 : decode cX6_toNextToken 107 = .ok (.aload_n 0, 1) := by decide +kernel
theorem dX6_toNextToken_108 : decode cX6_toNextToken 108 = .ok (.getfield 25, 3) := by decide +kernel
theorem dX6_toNextToken_111 : decode cX6_toNextToken 111 = .ok (.aload_n 0, 1) := by decide +kernel
theorem dX6_toNextToken_112 : decode cX6_toNextToken 112 = .ok (.getfield 31, 3) := by decide +kernel
theorem dX6_toNextToken_115 : decode cX6_toNextToken 115 = .ok (.iaload, 1) := by decide +kernel
theorem dX6_toNextToken_116 : decode cX6_toNextToken 116 = .ok (.invokestatic 57, 3) := by decide +kernel
theorem dX6_toNextToken_119 : decode cX6_toNextToken 119 = .ok (.ifCond .eq 16, 3) := by decide +kernel
theorem dX6_toNextToken_122 : decode cX6_toNextToken 122 = .ok (.aload_n 0, 1) := by decide +kernel
theorem dX6_toNextToken_123 : decode cX6_toNextToken 123 = .ok (.dup, 1) := by decide +kernel
theorem dX6_toNextToken_124 : decode cX6_toNextToken 124 = .ok (.getfield 31, 3) := by decide +kernel
theorem dX6_toNextToken_127 : decode cX6_toNextToken 127 = .ok (.iconst 1, 1) := by decide +kernel
theorem dX6_toNextToken_128 : decode cX6_toNextToken 128 = .ok (.iadd, 1) := by decide +kernel
theorem dX6_toNextToken_129 : decode cX6_toNextToken 129 = .ok (.putfield 31, 3) := by decide +kernel
theorem dX6_toNextToken_132 : decode cX6_toNextToken 132 = .ok (.goto (-36), 3) := by decide +kernel
theorem dX6_toNextToken_135 : decode cX6_toNextToken 135 = .ok (.return_, 1) := by decide +kernel
theorem dX6_isName_0 : decode cX6_isName 0 = .ok (.iload_n 0, 1) := by decide +kernel
theorem dX6_isName_1 : decode cX6_isName 1 = .ok (.bipush 101, 2) := by decide +kernel
theorem dX6_isName_3 : decode cX6_isName 3 = .ok (.if_icmp .eq 21, 3) := by decide +kernel
theorem dX6_isName_6 : decode cX6_isName 6 = .ok (.iload_n 0, 1) := by decide +kernel
theorem dX6_isName_7 : decode cX6_isName 7 = .ok (.bipush 113, 2) := by decide +kernel
theorem dX6_isName_9 : decode cX6_isName 9 = .ok (.if_icmp .eq 15, 3) := by decide +kernel
theorem dX6_isName_12 : decode cX6_isName 12 = .ok (.iload_n 0, 1) := by decide +kernel
theorem dX6_isName_13 : decode cX6_isName 13 = .ok (.bipush 108, 2) := by decide +kernel
theorem dX6_isName_15 : decode cX6_isName 15 = .ok (.if_icmp .eq 9, 3) := by decide +kernel
theorem dX6_isName_18 : decode cX6_isName 18 = .ok (.iload_n 0, 1) := by decide +kernel
theorem dX6_isName_19 : decode cX6_isName 19 = .ok (.bipush 105, 2) := by decide +kernel
theorem dX6_isName_21 : decode cX6_isName 21 = .ok (.if_icmp .ne 7, 3) := by decide +kernel
theorem dX6_isName_24 : decode cX6_isName 24 = .ok (.iconst 1, 1) := by decide +kernel
theorem dX6_isName_25 : decode cX6_isName 25 = .ok (.goto 4, 3) := by decide +kernel
theorem dX6_isName_28 : decode cX6_isName 28 = .ok (.iconst 0, 1) := by decide +kernel
theorem dX6_isName_29 : decode cX6_isName 29 = .ok (.ireturn, 1) := by decide +kernel
theorem dX6_isNumber_0 : decode cX6_isNumber 0 = .ok (.aload_n 0, 1) := by decide +kernel
theorem dX6_isNumber_1 : decode cX6_isNumber 1 = .ok (.getfield 31, 3) := by decide +kernel
theorem dX6_isNumber_4 : decode cX6_isNumber 4 = .ok (.aload_n 0, 1) := by decide +kernel
theorem dX6_isNumber_5 : decode cX6_isNumber 5 = .ok (.getfield 28, 3) := by decide +kernel
theorem dX6_isNumber_8 : decode cX6_isNumber 8 = .ok (.isub, 1) := by decide +kernel
theorem dX6_isNumber_9 : decode cX6_isNumber 9 = .ok (.iconst 4, 1) := by decide +kernel
theorem dX6_isNumber_10 : decode cX6_isNumber 10 = .ok (.if_icmp .gt 17, 3) := by decide +kernel
theorem dX6_isNumber_13 : decode cX6_isNumber 13 = .ok (.aload_n 0, 1) := by decide +kernel
theorem dX6_isNumber_14 : decode cX6_isNumber 14 = .ok (.invokevirtual 60, 3) := by decide +kernel
theorem dX6_isNumber_17 : decode cX6_isNumber 17 = .ok (.invokestatic 71, 3) := by decide +kernel
theorem dX6_isNumber_20 : decode cX6_isNumber 20 = .ok (.ifCond .eq 7, 3) := by decide +kernel
theorem dX6_isNumber_23 : decode cX6_isNumber 23 = .ok (.iconst 1, 1) := by decide +kernel
theorem dX6_isNumber_24 : decode cX6_isNumber 24 = .ok (.goto 4, 3) := by decide +kernel
theorem dX6_isNumber_27 : decode cX6_isNumber 27 = .ok (.iconst 0, 1) := by decide +kernel
theorem dX6_isNumber_28 : decode cX6_isNumber 28 = .ok (.ireturn, 1) := by decide +kernel
theorem dX6_amount_0 : decode cX6_amount 0 = .ok (.iconst 0, 1) := by decide +kernel
theorem dX6_amount_1 : decode cX6_amount 1 = .ok (.istore_n 1, 1) := by decide +kernel
theorem dX6_amount_2 : decode cX6_amount 2 = .ok (.aload_n 0, 1) := by decide +kernel
theorem dX6_amount_3 : decode cX6_amount 3 = .ok (.getfield 28, 3) := by decide +kernel
theorem dX6_amount_6 : decode cX6_amount 6 = .ok (.istore_n 2, 1) := by decide +kernel
theorem dX6_amount_7 : decode cX6_amount 7 = .ok (.iload_n 2, 1) := by decide +kernel
theorem dX6_amount_8 : decode cX6_amount 8 = .ok (.aload_n 0, 1) := by decide +kernel
theorem dX6_amount_9 : decode cX6_amount 9 = .ok (.getfield 31, 3) := by decide +kernel
theorem dX6_amount_12 : decode cX6_amount 12 = .ok (.if_icmp .ge 24, 3) := by decide +kernel
theorem dX6_amount_15 : decode cX6_amount 15 = .ok (.bipush 10, 2) := by decide +kernel
theorem dX6_amount_17 : decode cX6_amount 17 = .ok (.iload_n 1, 1) := by decide +kernel
theorem dX6_amount_18 : decode cX6_amount 18 = .ok (.imul, 1) := by decide +kernel
theorem dX6_amount_19 : decode cX6_amount 19 = .ok (.aload_n 0, 1) := by decide +kernel
theorem dX6_amount_20 : decode cX6_amount 20 = .ok (.getfield 25, 3) := by decide +kernel
theorem dX6_amount_23 : decode cX6_amount 23 = .ok (.iload_n 2, 1) := by decide +kernel
theorem dX6_amount_24 : decode cX6_amount 24 = .ok (.iaload, 1) := by decide +kernel
theorem dX6_amount_25 : decode cX6_amount 25 = .ok (.bipush 48, 2) := by decide +kernel
theorem dX6_amount_27 : decode cX6_amount 27 = .ok (.isub, 1) := by decide +kernel
theorem dX6_amount_28 : decode cX6_amount 28 = .ok (.iadd, 1) := by decide +kernel
theorem dX6_amount_29 : decode cX6_amount 29 = .ok (.istore_n 1, 1) := by decide +kernel
theorem dX6_amount_30 : decode cX6_amount 30 = .ok (.iinc 2 1, 3) := by decide +kernel
theorem dX6_amount_33 : decode cX6_amount 33 = .ok (.goto (-26), 3) := by decide +kernel
theorem dX6_amount_36 : decode cX6_amount 36 = .ok (.iload_n 1, 1) := by decide +kernel
theorem dX6_amount_37 : decode cX6_amount 37 = .ok (.ireturn, 1) := by decide +kernel
theorem dX6_isDigit_0 : decode cX6_isDigit 0 = .ok (.iload_n 0, 1) := by decide +kernel
theorem dX6_isDigit_1 : decode cX6_isDigit 1 = .ok (.bipush 48, 2) := by decide +kernel
theorem dX6_isDigit_3 : decode cX6_isDigit 3 = .ok (.if_icmp .lt 13, 3) := by decide +kernel
theorem dX6_isDigit_6 : decode cX6_isDigit 6 = .ok (.iload_n 0, 1) := by decide +kernel
theorem dX6_isDigit_7 : decode cX6_isDigit 7 = .ok (.bipush 57, 2) := by decide +kernel
theorem dX6_isDigit_9 : decode cX6_isDigit 9 = .ok (.if_icmp .gt 7, 3) := by decide +kernel
theorem dX6_isDigit_12 : decode cX6_isDigit 12 = .ok (.iconst 1, 1) := by decide +kernel
theorem dX6_isDigit_13 : decode cX6_isDigit 13 = .ok (.goto 4, 3) := by decide +kernel
theorem dX6_isDigit_16 : decode cX6_isDigit 16 = .ok (.iconst 0, 1) := by decide +kernel
theorem dX6_isDigit_17 : decode cX6_isDigit 17 = .ok (.ireturn, 1) := by decide +kernel
theorem dX6_addStep_0 : decode cX6_addStep 0 = .ok (.aload_n 0, 1) := by decide +kernel
theorem dX6_addStep_1 : decode cX6_addStep 1 = .ok (.getfield 18, 3) := by decide +kernel
theorem dX6_addStep_4 : decode cX6_addStep 4 = .ok (.bipush 120, 2) := by decide +kernel
theorem dX6_addStep_6 : decode cX6_addStep 6 = .ok (.if_icmp .ge 33, 3) := by decide +kernel
theorem dX6_addStep_9 : decode cX6_addStep 9 = .ok (.aload_n 0, 1) := by decide +kernel
theorem dX6_addStep_10 : decode cX6_addStep 10 = .ok (.getfield 9, 3) := by decide +kernel
theorem dX6_addStep_13 : decode cX6_addStep 13 = .ok (.aload_n 0, 1) := by decide +kernel
theorem dX6_addStep_14 : decode cX6_addStep 14 = .ok (.getfield 18, 3) := by decide +kernel
theorem dX6_addStep_17 : decode cX6_addStep 17 = .ok (.iload_n 1, 1) := by decide +kernel
theorem dX6_addStep_18 : decode cX6_addStep 18 = .ok (.iastore, 1) := by decide +kernel
theorem dX6_addStep_19 : decode cX6_addStep 19 = .ok (.aload_n 0, 1) := by decide +kernel
theorem dX6_addStep_20 : decode cX6_addStep 20 = .ok (.getfield 15, 3) := by decide +kernel
theorem dX6_addStep_23 : decode cX6_addStep 23 = .ok (.aload_n 0, 1) := by decide +kernel
theorem dX6_addStep_24 : decode cX6_addStep 24 = .ok (.getfield 18, 3) := by decide +kernel
theorem dX6_addStep_27 : decode cX6_addStep 27 = .ok (.iload_n 2, 1) := by decide +kernel
theorem dX6_addStep_28 : decode cX6_addStep 28 = .ok (.iastore, 1) := by decide +kernel
theorem dX6_addStep_29 : decode cX6_addStep 29 = .ok (.aload_n 0, 1) := by decide +kernel
theorem dX6_addStep_30 : decode cX6_addStep 30 = .ok (.dup, 1) := by decide +kernel
theorem dX6_addStep_31 : decode cX6_addStep 31 = .ok (.getfield 18, 3) := by decide +kernel
theorem dX6_addStep_34 : decode cX6_addStep 34 = .ok (.iconst 1, 1) := by decide +kernel
theorem dX6_addStep_35 : decode cX6_addStep 35 = .ok (.iadd, 1) := by decide +kernel
theorem dX6_addStep_36 : decode cX6_addStep 36 = .ok (.putfield 18, 3) := by decide +kernel
theorem dX6_addStep_39 : decode cX6_addStep 39 = .ok (.return_, 1) := by decide +kernel
theorem dX7_init_0 : decode cX7_init 0 = .ok (.aload_n 0, 1) := by decide +kernel
theorem dX7_init_1 : decode cX7_init 1 = .ok (.invokespecial 3, 3) := by decide +kernel
theorem dX7_init_4 : decode cX7_init 4 = .ok (.aload_n 0, 1) := by decide +kernel
theorem dX7_init_5 : decode cX7_init 5 = .ok (.new 9, 3) := by decide +kernel
theorem dX7_init_8 : decode cX7_init 8 = .ok (.dup, 1) := by decide +kernel
theorem dX7_init_9 : decode cX7_init 9 = .ok (.invokespecial 11, 3) := by decide +kernel
theorem dX7_init_12 : decode cX7_init 12 = .ok (.putfield 12, 3) := by decide +kernel
theorem dX7_init_15 : decode cX7_init 15 = .ok (.aload_n 0, 1) := by decide +kernel
theorem dX7_init_16 : decode cX7_init 16 = .ok (.new 16, 3) := by decide +kernel
theorem dX7_init_19 : decode cX7_init 19 = .ok (.dup, 1) := by decide +kernel
theorem dX7_init_20 : decode cX7_init 20 = .ok (.invokespecial 18, 3) := by decide +kernel
theorem dX7_init_23 : decode cX7_init 23 = .ok (.putfield 19, 3) := by decide +kernel
theorem dX7_init_26 : decode cX7_init 26 = .ok (.aload_n 0, 1) := by decide +kernel
theorem dX7_init_27 : decode cX7_init 27 = .ok (.new 23, 3) := by decide +kernel
theorem dX7_init_30 : decode cX7_init 30 = .ok (.dup, 1) := by decide +kernel
theorem dX7_init_31 : decode cX7_init 31 = .ok (.aload_n 0, 1) := by decide +kernel
theorem dX7_init_32 : decode cX7_init 32 = .ok (.getfield 12, 3) := by decide +kernel
theorem dX7_init_35 : decode cX7_init 35 = .ok (.invokespecial 25, 3) := by decide +kernel
theorem dX7_init_38 : decode cX7_init 38 = .ok (.putfield 28, 3) := by decide +kernel
theorem dX7_init_41 : decode cX7_init 41 = .ok (.aload_n 0, 1) := by decide +kernel
theorem dX7_init_42 : decode cX7_init 42 = .ok (.iconst 4, 1) := by decide +kernel
theorem dX7_init_43 : decode cX7_init 43 = .ok (.anewarray 32, 3) := by decide +kernel
theorem dX7_init_46 : decode cX7_init 46 = .ok (.putfield 34, 3) := by decide +kernel
theorem dX7_init_49 : decode cX7_init 49 = .ok (.iconst 0, 1) := by decide +kernel
theorem dX7_init_50 : decode cX7_init 50 = .ok (.istore_n 1, 1) := by decide +kernel
theorem dX7_init_51 : decode cX7_init 51 = .ok (.iload_n 1, 1) := by decide +kernel
theorem dX7_init_52 : decode cX7_init 52 = .ok (.iconst 4, 1) := by decide +kernel
theorem dX7_init_53 : decode cX7_init 53 = .ok (.if_icmp .ge 26, 3) := by decide +kernel
theorem dX7_init_56 : decode cX7_init 56 = .ok (.aload_n 0, 1) := by decide +kernel
theorem dX7_init_57 : decode cX7_init 57 = .ok (.getfield 34, 3) := by decide +kernel
theorem dX7_init_60 : decode cX7_init 60 = .ok (.iload_n 1, 1) := by decide +kernel
theorem dX7_init_61 : decode cX7_init 61 = .ok (.new 32, 3) := by decide +kernel
theorem dX7_init_64 : decode cX7_init 64 = .ok (.dup, 1) := by decide +kernel
theorem dX7_init_65 : decode cX7_init 65 = .ok (.aload_n 0, 1) := by decide +kernel
theorem dX7_init_66 : decode cX7_init 66 = .ok (.getfield 12, 3) := by decide +kernel
theorem dX7_init_69 : decode cX7_init 69 = .ok (.invokespecial 38, 3) := by decide +kernel
theorem dX7_init_72 : decode cX7_init 72 = .ok (.aastore, 1) := by decide +kernel
theorem dX7_init_73 : decode cX7_init 73 = .ok (.iinc 1 1, 3) := by decide +kernel
theorem dX7_init_76 : decode cX7_init 76 = .ok (.goto (-25), 3) := by decide +kernel
theorem dX7_init_79 : decode cX7_init 79 = .ok (.aload_n 0, 1) := by decide +kernel
theorem dX7_init_80 : decode cX7_init 80 = .ok (.new 39, 3) := by decide +kernel
theorem dX7_init_83 : decode cX7_init 83 = .ok (.dup, 1) := by decide +kernel
theorem dX7_init_84 : decode cX7_init 84 = .ok (.invokespecial 41, 3) := by decide +kernel
theorem dX7_init_87 : decode cX7_init 87 = .ok (.putfield 42, 3) := by decide +kernel
theorem dX7_init_90 : decode cX7_init 90 = .ok (.aload_n 0, 1) := by decide +kernel
theorem dX7_init_91 : decode cX7_init 91 = .ok (.iconst 2, 1) := by decide +kernel
theorem dX7_init_92 : decode cX7_init 92 = .ok (.anewarray 46, 3) := by decide +kernel
theorem dX7_init_95 : decode cX7_init 95 = .ok (.putfield 48, 3) := by decide +kernel
theorem dX7_init_98 : decode cX7_init 98 = .ok (.iconst 0, 1) := by decide +kernel
theorem dX7_init_99 : decode cX7_init 99 = .ok (.istore_n 1, 1) := by decide +kernel
theorem dX7_init_100 : decode cX7_init 100 = .ok (.iload_n 1, 1) := by decide +kernel
theorem dX7_init_101 : decode cX7_init 101 = .ok (.iconst 2, 1) := by decide +kernel
theorem dX7_init_102 : decode cX7_init 102 = .ok (.if_icmp .ge 22, 3) := by decide +kernel
theorem dX7_init_105 : decode cX7_init 105 = .ok (.aload_n 0, 1) := by decide +kernel
theorem dX7_init_106 : decode cX7_init 106 = .ok (.getfield 48, 3) := by decide +kernel
theorem dX7_init_109 : decode cX7_init 109 = .ok (.iload_n 1, 1) := by decide +kernel
theorem dX7_init_110 : decode cX7_init 110 = .ok (.new 46, 3) := by decide +kernel
theorem dX7_init_113 : decode cX7_init 113 = .ok (.dup, 1) := by decide +kernel
theorem dX7_init_114 : decode cX7_init 114 = .ok (.invokespecial 52, 3) := by decide +kernel
theorem dX7_init_117 : decode cX7_init 117 = .ok (.aastore, 1) := by decide +kernel
theorem dX7_init_118 : decode cX7_init 118 = .ok (.iinc 1 1, 3) := by decide +kernel
theorem dX7_init_121 : decode cX7_init 121 = .ok (.goto (-21), 3) := by decide +kernel
theorem dX7_init_124 : decode cX7_init 124 = .ok (.aload_n 0, 1) := by decide +kernel
theorem dX7_init_125 : decode cX7_init 125 = .ok (.bipush 9, 2) := by decide +kernel
theorem dX7_init_127 : decode cX7_init 127 = .ok (.newarray .int, 2) := by decide +kernel
theorem dX7_init_129 : decode cX7_init 129 = .ok (.putfield 53, 3) := by decide +kernel
theorem dX7_init_132 : decode cX7_init 132 = .ok (.aload_n 0, 1) := by decide +kernel
theorem dX7_init_133 : decode cX7_init 133 = .ok (.bipush 9, 2) := by decide +kernel
theorem dX7_init_135 : decode cX7_init 135 = .ok (.newarray .int, 2) := by decide +kernel
theorem dX7_init_137 : decode cX7_init 137 = .ok (.putfield 57, 3) := by decide +kernel
theorem dX7_init_140 : decode cX7_init 140 = .ok (.aload_n 0, 1) := by decide +kernel
theorem dX7_init_141 : decode cX7_init 141 = .ok (.bipush 9, 2) := by decide +kernel
theorem dX7_init_143 : decode cX7_init 143 = .ok (.newarray .int, 2) := by decide +kernel
theorem dX7_init_145 : decode cX7_init 145 = .ok (.putfield 60, 3) := by decide +kernel
theorem dX7_init_148 : decode cX7_init 148 = .ok (.aload_n 0, 1) := by decide +kernel
theorem dX7_init_149 : decode cX7_init 149 = .ok (.bipush 9, 2) := by decide +kernel
theorem dX7_init_151 : decode cX7_init 151 = .ok (.newarray .int, 2) := by decide +kernel
theorem dX7_init_153 : decode cX7_init 153 = .ok (.putfield 63, 3) := by decide +kernel
theorem dX7_init_156 : decode cX7_init 156 = .ok (.return_, 1) := by decide +kernel
theorem dX7_write_0 : decode cX7_write 0 = .ok (.iload_n 1, 1) := by decide +kernel
theorem dX7_write_1 : decode cX7_write 1 = .ok (.ifCond .lt 10, 3) := by decide +kernel
theorem dX7_write_4 : decode cX7_write 4 = .ok (.iload_n 1, 1) := by decide +kernel
theorem dX7_write_5 : decode cX7_write 5 = .ok (.sipush 256, 3) := by decide +kernel
theorem dX7_write_8 : decode cX7_write 8 = .ok (.if_icmp .lt 6, 3) := by decide +kernel
theorem dX7_write_11 : decode cX7_write 11 = .ok (.bipush (-3), 2) := by decide +kernel
theorem dX7_write_13 : decode cX7_write 13 = .ok (.ireturn, 1) := by decide +kernel
theorem dX7_write_14 : decode cX7_write 14 = .ok (.aload_n 0, 1) := by decide +kernel
theorem dX7_write_15 : decode cX7_write 15 = .ok (.getfield 19, 3) := by decide +kernel
theorem dX7_write_18 : decode cX7_write 18 = .ok (.iload_n 1, 1) := by decide +kernel
theorem dX7_write_19 : decode cX7_write 19 = .ok (.invokevirtual 66, 3) := by decide +kernel
theorem dX7_write_22 : decode cX7_write 22 = .ok (.ifCond .eq 13, 3) := by decide +kernel
theorem dX7_write_25 : decode cX7_write 25 = .ok (.aload_n 0, 1) := by decide +kernel
theorem dX7_write_26 : decode cX7_write 26 = .ok (.getfield 19, 3) := by decide +kernel
theorem dX7_write_29 : decode cX7_write 29 = .ok (.getfield 70, 3) := by decide +kernel
theorem dX7_write_32 : decode cX7_write 32 = .ok (.goto 5, 3) := by decide +kernel
theorem dX7_write_35 : decode cX7_write 35 = .ok (.bipush (-5), 2) := by decide +kernel
theorem dX7_write_37 : decode cX7_write 37 = .ok (.ireturn, 1) := by decide +kernel
theorem dX7_erase_0 : decode cX7_erase 0 = .ok (.aload_n 0, 1) := by decide +kernel
theorem dX7_erase_1 : decode cX7_erase 1 = .ok (.getfield 19, 3) := by decide +kernel
theorem dX7_erase_4 : decode cX7_erase 4 = .ok (.getfield 70, 3) := by decide +kernel
theorem dX7_erase_7 : decode cX7_erase 7 = .ok (.istore_n 1, 1) := by decide +kernel
theorem dX7_erase_8 : decode cX7_erase 8 = .ok (.aload_n 0, 1) := by decide +kernel
theorem dX7_erase_9 : decode cX7_erase 9 = .ok (.getfield 19, 3) := by decide +kernel
theorem dX7_erase_12 : decode cX7_erase 12 = .ok (.invokevirtual 74, 3) := by decide +kernel
theorem dX7_erase_15 : decode cX7_erase 15 = .ok (.iload_n 1, 1) := by decide +kernel
theorem dX7_erase_16 : decode cX7_erase 16 = .ok (.ireturn, 1) := by decide +kernel
theorem dX7_fault_0 : decode cX7_fault 0 = .ok (.aload_n 0, 1) := by decide +kernel
theorem dX7_fault_1 : decode cX7_fault 1 = .ok (.getfield 19, 3) := by decide +kernel
theorem dX7_fault_4 : decode cX7_fault 4 = .ok (.invokevirtual 77, 3) := by decide +kernel
theorem dX7_fault_7 : decode cX7_fault 7 = .ok (.ireturn, 1) := by decide +kernel
theorem dX7_read_0 : decode cX7_read 0 = .ok (.iload_n 1, 1) := by decide +kernel
theorem dX7_read_1 : decode cX7_read 1 = .ok (.invokestatic 81, 3) := by decide +kernel
theorem dX7_read_4 : decode cX7_read 4 = .ok (.ifCond .ne 6, 3) := by decide +kernel
theorem dX7_read_7 : decode cX7_read 7 = .ok (.bipush (-2), 2) := by decide +kernel
theorem dX7_read_9 : decode cX7_read 9 = .ok (.ireturn, 1) := by decide +kernel
theorem dX7_read_10 : decode cX7_read 10 = .ok (.aload_n 0, 1) := by decide +kernel
theorem dX7_read_11 : decode cX7_read 11 = .ok (.getfield 19, 3) := by decide +kernel
theorem dX7_read_14 : decode cX7_read 14 = .ok (.invokevirtual 77, 3) := by decide +kernel
theorem dX7_read_17 : decode cX7_read 17 = .ok (.iconst (-1), 1) := by decide +kernel
theorem dX7_read_18 : decode cX7_read 18 = .ok (.if_icmp .eq 6, 3) := by decide +kernel
theorem dX7_read_21 : decode cX7_read 21 = .ok (.bipush (-4), 2) := by decide +kernel
theorem dX7_read_23 : decode cX7_read 23 = .ok (.ireturn, 1) := by decide +kernel
theorem dX7_read_24 : decode cX7_read 24 = .ok (.aload_n 0, 1) := by decide +kernel
theorem dX7_read_25 : decode cX7_read 25 = .ok (.getfield 28, 3) := by decide +kernel
theorem dX7_read_28 : decode cX7_read 28 = .ok (.aload_n 0, 1) := by decide +kernel
theorem dX7_read_29 : decode cX7_read 29 = .ok (.getfield 19, 3) := by decide +kernel
theorem dX7_read_32 : decode cX7_read 32 = .ok (.invokevirtual 84, 3) := by decide +kernel
theorem dX7_read_35 : decode cX7_read 35 = .ok (.ifCond .ne 6, 3) := by decide +kernel
theorem dX7_read_38 : decode cX7_read 38 = .ok (.bipush (-6), 2) := by decide +kernel
theorem dX7_read_40 : decode cX7_read 40 = .ok (.ireturn, 1) := by decide +kernel
theorem dX7_read_41 : decode cX7_read 41 = .ok (.aload_n 0, 1) := by decide +kernel
theorem dX7_read_42 : decode cX7_read 42 = .ok (.getfield 19, 3) := by decide +kernel
theorem dX7_read_45 : decode cX7_read 45 = .ok (.invokevirtual 74, 3) := by decide +kernel
theorem dX7_read_48 : decode cX7_read 48 = .ok (.aload_n 0, 1) := by decide +kernel
theorem dX7_read_49 : decode cX7_read 49 = .ok (.getfield 34, 3) := by decide +kernel
theorem dX7_read_52 : decode cX7_read 52 = .ok (.iload_n 1, 1) := by decide +kernel
theorem dX7_read_53 : decode cX7_read 53 = .ok (.aaload, 1) := by decide +kernel
theorem dX7_read_54 : decode cX7_read 54 = .ok (.aload_n 0, 1) := by decide +kernel
theorem dX7_read_55 : decode cX7_read 55 = .ok (.getfield 28, 3) := by decide +kernel
theorem dX7_read_58 : decode cX7_read 58 = .ok (.invokevirtual 88, 3) := by decide +kernel
theorem dX7_read_61 : decode cX7_read 61 = .ok (.aload_n 0, 1) := by decide +kernel
theorem dX7_read_62 : decode cX7_read 62 = .ok (.getfield 28, 3) := by decide +kernel
theorem dX7_read_65 : decode cX7_read 65 = .ok (.invokevirtual 92, 3) := by decide +kernel
theorem dX7_read_68 : decode cX7_read 68 = .ok (.invokevirtual 95, 3) := by decide +kernel
theorem dX7_read_71 : decode cX7_read 71 = .ok (.ireturn, 1) := by decide +kernel
theorem dX7_compose_0 : decode cX7_compose 0 = .ok (.iload_n 1, 1) := by decide +kernel
theorem dX7_compose_1 : decode cX7_compose 1 = .ok (.invokestatic 81, 3) := by decide +kernel
theorem dX7_compose_4 : decode cX7_compose 4 = .ok (.ifCond .eq 17, 3) := by decide +kernel
theorem dX7_compose_7 : decode cX7_compose 7 = .ok (.iload_n 2, 1) := by decide +kernel
theorem dX7_compose_8 : decode cX7_compose 8 = .ok (.invokestatic 81, 3) := by decide +kernel
theorem dX7_compose_11 : decode cX7_compose 11 = .ok (.ifCond .eq 10, 3) := by decide +kernel
theorem dX7_compose_14 : decode cX7_compose 14 = .ok (.iload_n 3, 1) := by decide +kernel
theorem dX7_compose_15 : decode cX7_compose 15 = .ok (.invokestatic 81, 3) := by decide +kernel
theorem dX7_compose_18 : decode cX7_compose 18 = .ok (.ifCond .ne 6, 3) := by decide +kernel
theorem dX7_compose_21 : decode cX7_compose 21 = .ok (.bipush (-2), 2) := by decide +kernel
theorem dX7_compose_23 : decode cX7_compose 23 = .ok (.ireturn, 1) := by decide +kernel
theorem dX7_compose_24 : decode cX7_compose 24 = .ok (.aload_n 0, 1) := by decide +kernel
theorem dX7_compose_25 : decode cX7_compose 25 = .ok (.getfield 34, 3) := by decide +kernel
theorem dX7_compose_28 : decode cX7_compose 28 = .ok (.iload_n 2, 1) := by decide +kernel
theorem dX7_compose_29 : decode cX7_compose 29 = .ok (.aaload, 1) := by decide +kernel
theorem dX7_compose_30 : decode cX7_compose 30 = .ok (.astore 4, 2) := by decide +kernel
theorem dX7_compose_32 : decode cX7_compose 32 = .ok (.aload_n 0, 1) := by decide +kernel
theorem dX7_compose_33 : decode cX7_compose 33 = .ok (.getfield 34, 3) := by decide +kernel
theorem dX7_compose_36 : decode cX7_compose 36 = .ok (.iload_n 3, 1) := by decide +kernel
theorem dX7_compose_37 : decode cX7_compose 37 = .ok (.aaload, 1) := by decide +kernel
theorem dX7_compose_38 : decode cX7_compose 38 = .ok (.astore 5, 2) := by decide +kernel
theorem dX7_compose_40 : decode cX7_compose 40 = .ok (.aload_n 0, 1) := by decide +kernel
theorem dX7_compose_41 : decode cX7_compose 41 = .ok (.getfield 12, 3) := by decide +kernel
theorem dX7_compose_44 : decode cX7_compose 44 = .ok (.aload_n 0, 1) := by decide +kernel
theorem dX7_compose_45 : decode cX7_compose 45 = .ok (.getfield 53, 3) := by decide +kernel
theorem dX7_compose_48 : decode cX7_compose 48 = .ok (.aload 4, 2) := by decide +kernel
theorem dX7_compose_50 : decode cX7_compose 50 = .ok (.getfield 99, 3) := by decide +kernel
theorem dX7_compose_53 : decode cX7_compose 53 = .ok (.aload 5, 2) := by decide +kernel
theorem dX7_compose_55 : decode cX7_compose 55 = .ok (.getfield 102, 3) := by decide +kernel
theorem dX7_compose_58 : decode cX7_compose 58 = .ok (.invokevirtual 105, 3) := by decide +kernel
theorem dX7_compose_61 : decode cX7_compose 61 = .ok (.aload_n 0, 1) := by decide +kernel
theorem dX7_compose_62 : decode cX7_compose 62 = .ok (.getfield 12, 3) := by decide +kernel
theorem dX7_compose_65 : decode cX7_compose 65 = .ok (.aload_n 0, 1) := by decide +kernel
theorem dX7_compose_66 : decode cX7_compose 66 = .ok (.getfield 53, 3) := by decide +kernel
theorem dX7_compose_69 : decode cX7_compose 69 = .ok (.aload_n 0, 1) := by decide +kernel
theorem dX7_compose_70 : decode cX7_compose 70 = .ok (.getfield 53, 3) := by decide +kernel
theorem dX7_compose_73 : decode cX7_compose 73 = .ok (.aload 5, 2) := by decide +kernel
theorem dX7_compose_75 : decode cX7_compose 75 = .ok (.getfield 99, 3) := by decide +kernel
theorem dX7_compose_78 : decode cX7_compose 78 = .ok (.invokevirtual 109, 3) := by decide +kernel
theorem dX7_compose_81 : decode cX7_compose 81 = .ok (.aload_n 0, 1) := by decide +kernel
theorem dX7_compose_82 : decode cX7_compose 82 = .ok (.getfield 12, 3) := by decide +kernel
theorem dX7_compose_85 : decode cX7_compose 85 = .ok (.aload_n 0, 1) := by decide +kernel
theorem dX7_compose_86 : decode cX7_compose 86 = .ok (.getfield 57, 3) := by decide +kernel
theorem dX7_compose_89 : decode cX7_compose 89 = .ok (.aload 4, 2) := by decide +kernel
theorem dX7_compose_91 : decode cX7_compose 91 = .ok (.getfield 102, 3) := by decide +kernel
theorem dX7_compose_94 : decode cX7_compose 94 = .ok (.aload 5, 2) := by decide +kernel
theorem dX7_compose_96 : decode cX7_compose 96 = .ok (.getfield 102, 3) := by decide +kernel
theorem dX7_compose_99 : decode cX7_compose 99 = .ok (.invokevirtual 105, 3) := by decide +kernel
theorem dX7_compose_102 : decode cX7_compose 102 = .ok (.aload_n 0, 1) := by decide +kernel
theorem dX7_compose_103 : decode cX7_compose 103 = .ok (.getfield 34, 3) := by decide +kernel
theorem dX7_compose_106 : decode cX7_compose 106 = .ok (.iload_n 1, 1) := by decide +kernel
theorem dX7_compose_107 : decode cX7_compose 107 = .ok (.aaload, 1) := by decide +kernel
theorem dX7_compose_108 : decode cX7_compose 108 = .ok (.aload_n 0, 1) := by decide +kernel
theorem dX7_compose_109 : decode cX7_compose 109 = .ok (.getfield 53, 3) := by decide +kernel
theorem dX7_compose_112 : decode cX7_compose 112 = .ok (.aload_n 0, 1) := by decide +kernel
theorem dX7_compose_113 : decode cX7_compose 113 = .ok (.getfield 57, 3) := by decide +kernel
theorem dX7_compose_116 : decode cX7_compose 116 = .ok (.invokevirtual 95, 3) := by decide +kernel
theorem dX7_compose_119 : decode cX7_compose 119 = .ok (.ireturn, 1) := by decide +kernel
theorem dX7_invert_0 : decode cX7_invert 0 = .ok (.iload_n 1, 1) := by decide +kernel
theorem dX7_invert_1 : decode cX7_invert 1 = .ok (.invokestatic 81, 3) := by decide +kernel
theorem dX7_invert_4 : decode cX7_invert 4 = .ok (.ifCond .eq 10, 3) := by decide +kernel
theorem dX7_invert_7 : decode cX7_invert 7 = .ok (.iload_n 2, 1) := by decide +kernel
theorem dX7_invert_8 : decode cX7_invert 8 = .ok (.invokestatic 81, 3) := by decide +kernel
theorem dX7_invert_11 : decode cX7_invert 11 = .ok (.ifCond .ne 6, 3) := by decide +kernel
theorem dX7_invert_14 : decode cX7_invert 14 = .ok (.bipush (-2), 2) := by decide +kernel
theorem dX7_invert_16 : decode cX7_invert 16 = .ok (.ireturn, 1) := by decide +kernel
theorem dX7_invert_17 : decode cX7_invert 17 = .ok (.aload_n 0, 1) := by decide +kernel
theorem dX7_invert_18 : decode cX7_invert 18 = .ok (.getfield 34, 3) := by decide +kernel
theorem dX7_invert_21 : decode cX7_invert 21 = .ok (.iload_n 2, 1) := by decide +kernel
theorem dX7_invert_22 : decode cX7_invert 22 = .ok (.aaload, 1) := by decide +kernel
theorem dX7_invert_23 : decode cX7_invert 23 = .ok (.astore_n 3, 1) := by decide +kernel
theorem dX7_invert_24 : decode cX7_invert 24 = .ok (.aload_n 0, 1) := by decide +kernel
theorem dX7_invert_25 : decode cX7_invert 25 = .ok (.getfield 12, 3) := by decide +kernel
theorem dX7_invert_28 : decode cX7_invert 28 = .ok (.aload_n 0, 1) := by decide +kernel
theorem dX7_invert_29 : decode cX7_invert 29 = .ok (.getfield 60, 3) := by decide +kernel
theorem dX7_invert_32 : decode cX7_invert 32 = .ok (.aload_n 3, 1) := by decide +kernel
theorem dX7_invert_33 : decode cX7_invert 33 = .ok (.getfield 99, 3) := by decide +kernel
theorem dX7_invert_36 : decode cX7_invert 36 = .ok (.aload_n 3, 1) := by decide +kernel
theorem dX7_invert_37 : decode cX7_invert 37 = .ok (.getfield 112, 3) := by decide +kernel
theorem dX7_invert_40 : decode cX7_invert 40 = .ok (.invokevirtual 105, 3) := by decide +kernel
theorem dX7_invert_43 : decode cX7_invert 43 = .ok (.aload_n 0, 1) := by decide +kernel
theorem dX7_invert_44 : decode cX7_invert 44 = .ok (.getfield 12, 3) := by decide +kernel
theorem dX7_invert_47 : decode cX7_invert 47 = .ok (.aload_n 0, 1) := by decide +kernel
theorem dX7_invert_48 : decode cX7_invert 48 = .ok (.getfield 53, 3) := by decide +kernel
theorem dX7_invert_51 : decode cX7_invert 51 = .ok (.aload_n 0, 1) := by decide +kernel
theorem dX7_invert_52 : decode cX7_invert 52 = .ok (.getfield 60, 3) := by decide +kernel
theorem dX7_invert_55 : decode cX7_invert 55 = .ok (.invokevirtual 115, 3) := by decide +kernel
theorem dX7_invert_58 : decode cX7_invert 58 = .ok (.aload_n 3, 1) := by decide +kernel
theorem dX7_invert_59 : decode cX7_invert 59 = .ok (.getfield 112, 3) := by decide +kernel
theorem dX7_invert_62 : decode cX7_invert 62 = .ok (.aload_n 0, 1) := by decide +kernel
theorem dX7_invert_63 : decode cX7_invert 63 = .ok (.getfield 57, 3) := by decide +kernel
theorem dX7_invert_66 : decode cX7_invert 66 = .ok (.invokestatic 119, 3) := by decide +kernel
theorem dX7_invert_69 : decode cX7_invert 69 = .ok (.aload_n 0, 1) := by decide +kernel
theorem dX7_invert_70 : decode cX7_invert 70 = .ok (.getfield 34, 3) := by decide +kernel
theorem dX7_invert_73 : decode cX7_invert 73 = .ok (.iload_n 1, 1) := by decide +kernel
theorem dX7_invert_74 : decode cX7_invert 74 = .ok (.aaload, 1) := by decide +kernel
theorem dX7_invert_75 : decode cX7_invert 75 = .ok (.aload_n 0, 1) := by decide +kernel
theorem dX7_invert_76 : decode cX7_invert 76 = .ok (.getfield 53, 3) := by decide +kernel
theorem dX7_invert_79 : decode cX7_invert 79 = .ok (.aload_n 0, 1) := by decide +kernel
theorem dX7_invert_80 : decode cX7_invert 80 = .ok (.getfield 57, 3) := by decide +kernel
theorem dX7_invert_83 : decode cX7_invert 83 = .ok (.invokevirtual 95, 3) := by decide +kernel
theorem dX7_invert_86 : decode cX7_invert 86 = .ok (.ireturn, 1) := by decide +kernel
theorem dX7_part_0 : decode cX7_part 0 = .ok (.iload_n 1, 1) := by decide +kernel
theorem dX7_part_1 : decode cX7_part 1 = .ok (.invokestatic 81, 3) := by decide +kernel
theorem dX7_part_4 : decode cX7_part 4 = .ok (.ifCond .eq 10, 3) := by decide +kernel
theorem dX7_part_7 : decode cX7_part 7 = .ok (.iload_n 2, 1) := by decide +kernel
theorem dX7_part_8 : decode cX7_part 8 = .ok (.invokestatic 81, 3) := by decide +kernel
theorem dX7_part_11 : decode cX7_part 11 = .ok (.ifCond .ne 6, 3) := by decide +kernel
theorem dX7_part_14 : decode cX7_part 14 = .ok (.bipush (-2), 2) := by decide +kernel
theorem dX7_part_16 : decode cX7_part 16 = .ok (.ireturn, 1) := by decide +kernel
theorem dX7_part_17 : decode cX7_part 17 = .ok (.iload_n 3, 1) := by decide +kernel
theorem dX7_part_18 : decode cX7_part 18 = .ok (.ifCond .eq 11, 3) := by decide +kernel
theorem dX7_part_21 : decode cX7_part 21 = .ok (.iload_n 3, 1) := by decide +kernel
theorem dX7_part_22 : decode cX7_part 22 = .ok (.iconst 1, 1) := by decide +kernel
theorem dX7_part_23 : decode cX7_part 23 = .ok (.if_icmp .eq 6, 3) := by decide +kernel
theorem dX7_part_26 : decode cX7_part 26 = .ok (.bipush (-3), 2) := by decide +kernel
theorem dX7_part_28 : decode cX7_part 28 = .ok (.ireturn, 1) := by decide +kernel
theorem dX7_part_29 : decode cX7_part 29 = .ok (.aload_n 0, 1) := by decide +kernel
theorem dX7_part_30 : decode cX7_part 30 = .ok (.getfield 34, 3) := by decide +kernel
theorem dX7_part_33 : decode cX7_part 33 = .ok (.iload_n 2, 1) := by decide +kernel
theorem dX7_part_34 : decode cX7_part 34 = .ok (.aaload, 1) := by decide +kernel
theorem dX7_part_35 : decode cX7_part 35 = .ok (.getfield 99, 3) := by decide +kernel
theorem dX7_part_38 : decode cX7_part 38 = .ok (.aload_n 0, 1) := by decide +kernel
theorem dX7_part_39 : decode cX7_part 39 = .ok (.getfield 53, 3) := by decide +kernel
theorem dX7_part_42 : decode cX7_part 42 = .ok (.invokestatic 119, 3) := by decide +kernel
theorem dX7_part_45 : decode cX7_part 45 = .ok (.aload_n 0, 1) := by decide +kernel
theorem dX7_part_46 : decode cX7_part 46 = .ok (.getfield 34, 3) := by decide +kernel
theorem dX7_part_49 : decode cX7_part 49 = .ok (.iload_n 2, 1) := by decide +kernel
theorem dX7_part_50 : decode cX7_part 50 = .ok (.aaload, 1) := by decide +kernel
theorem dX7_part_51 : decode cX7_part 51 = .ok (.getfield 102, 3) := by decide +kernel
theorem dX7_part_54 : decode cX7_part 54 = .ok (.aload_n 0, 1) := by decide +kernel
theorem dX7_part_55 : decode cX7_part 55 = .ok (.getfield 57, 3) := by decide +kernel
theorem dX7_part_58 : decode cX7_part 58 = .ok (.invokestatic 119, 3) := by decide +kernel
theorem dX7_part_61 : decode cX7_part 61 = .ok (.iload_n 3, 1) := by decide +kernel
theorem dX7_part_62 : decode cX7_part 62 = .ok (.ifCond .ne 15, 3) := by decide +kernel
theorem dX7_part_65 : decode cX7_part 65 = .ok (.aload_n 0, 1) := by decide +kernel
theorem dX7_part_66 : decode cX7_part 66 = .ok (.getfield 53, 3) := by decide +kernel
theorem dX7_part_69 : decode cX7_part 69 = .ok (.iconst 0, 1) := by decide +kernel
theorem dX7_part_70 : decode cX7_part 70 = .ok (.iconst 1, 1) := by decide +kernel
theorem dX7_part_71 : decode cX7_part 71 = .ok (.invokestatic 122, 3) := by decide +kernel
theorem dX7_part_74 : decode cX7_part 74 = .ok (.goto 12, 3) := by decide +kernel
theorem dX7_part_77 : decode cX7_part 77 = .ok (.aload_n 0, 1) := by decide +kernel
theorem dX7_part_78 : decode cX7_part 78 = .ok (.getfield 57, 3) := by decide +kernel
theorem dX7_part_81 : decode cX7_part 81 = .ok (.iconst 1, 1) := by decide +kernel
theorem dX7_part_82 : decode cX7_part 82 = .ok (.iconst 1, 1) := by decide +kernel
theorem dX7_part_83 : decode cX7_part 83 = .ok (.invokestatic 122, 3) := by decide +kernel
theorem dX7_part_86 : decode cX7_part 86 = .ok (.aload_n 0, 1) := by decide +kernel
theorem dX7_part_87 : decode cX7_part 87 = .ok (.getfield 34, 3) := by decide +kernel
theorem dX7_part_90 : decode cX7_part 90 = .ok (.iload_n 1, 1) := by decide +kernel
theorem dX7_part_91 : decode cX7_part 91 = .ok (.aaload, 1) := by decide +kernel
theorem dX7_part_92 : decode cX7_part 92 = .ok (.aload_n 0, 1) := by decide +kernel
theorem dX7_part_93 : decode cX7_part 93 = .ok (.getfield 53, 3) := by decide +kernel
theorem dX7_part_96 : decode cX7_part 96 = .ok (.aload_n 0, 1) := by decide +kernel
theorem dX7_part_97 : decode cX7_part 97 = .ok (.getfield 57, 3) := by decide +kernel
theorem dX7_part_100 : decode cX7_part 100 = .ok (.invokevirtual 95, 3) := by decide +kernel
theorem dX7_part_103 : decode cX7_part 103 = .ok (.ireturn, 1) := by decide +kernel
theorem dX7_move_0 : decode cX7_move 0 = .ok (.iload_n 1, 1) := by decide +kernel
theorem dX7_move_1 : decode cX7_move 1 = .ok (.invokestatic 81, 3) := by decide +kernel
theorem dX7_move_4 : decode cX7_move 4 = .ok (.ifCond .eq 10, 3) := by decide +kernel
theorem dX7_move_7 : decode cX7_move 7 = .ok (.iload_n 2, 1) := by decide +kernel
theorem dX7_move_8 : decode cX7_move 8 = .ok (.invokestatic 81, 3) := by decide +kernel
theorem dX7_move_11 : decode cX7_move 11 = .ok (.ifCond .ne 6, 3) := by decide +kernel
theorem dX7_move_14 : decode cX7_move 14 = .ok (.bipush (-2), 2) := by decide +kernel
theorem dX7_move_16 : decode cX7_move 16 = .ok (.ireturn, 1) := by decide +kernel
theorem dX7_move_17 : decode cX7_move 17 = .ok (.iload_n 3, 1) := by decide +kernel
theorem dX7_move_18 : decode cX7_move 18 = .ok (.invokestatic 126, 3) := by decide +kernel
theorem dX7_move_21 : decode cX7_move 21 = .ok (.ifCond .ne 6, 3) := by decide +kernel
theorem dX7_move_24 : decode cX7_move 24 = .ok (.bipush (-3), 2) := by decide +kernel
theorem dX7_move_26 : decode cX7_move 26 = .ok (.ireturn, 1) := by decide +kernel
theorem dX7_move_27 : decode cX7_move 27 = .ok (.aload_n 0, 1) := by decide +kernel
theorem dX7_move_28 : decode cX7_move 28 = .ok (.getfield 12, 3) := by decide +kernel
theorem dX7_move_31 : decode cX7_move 31 = .ok (.aload_n 0, 1) := by decide +kernel
theorem dX7_move_32 : decode cX7_move 32 = .ok (.getfield 60, 3) := by decide +kernel
theorem dX7_move_35 : decode cX7_move 35 = .ok (.iconst 0, 1) := by decide +kernel
theorem dX7_move_36 : decode cX7_move 36 = .ok (.iload_n 3, 1) := by decide +kernel
theorem dX7_move_37 : decode cX7_move 37 = .ok (.invokestatic 131, 3) := by decide +kernel
theorem dX7_move_40 : decode cX7_move 40 = .ok (.invokevirtual 135, 3) := by decide +kernel
theorem dX7_move_43 : decode cX7_move 43 = .ok (.aload_n 0, 1) := by decide +kernel
theorem dX7_move_44 : decode cX7_move 44 = .ok (.getfield 12, 3) := by decide +kernel
theorem dX7_move_47 : decode cX7_move 47 = .ok (.aload_n 0, 1) := by decide +kernel
theorem dX7_move_48 : decode cX7_move 48 = .ok (.getfield 53, 3) := by decide +kernel
theorem dX7_move_51 : decode cX7_move 51 = .ok (.aload_n 0, 1) := by decide +kernel
theorem dX7_move_52 : decode cX7_move 52 = .ok (.getfield 34, 3) := by decide +kernel
theorem dX7_move_55 : decode cX7_move 55 = .ok (.iload_n 2, 1) := by decide +kernel
theorem dX7_move_56 : decode cX7_move 56 = .ok (.aaload, 1) := by decide +kernel
theorem dX7_move_57 : decode cX7_move 57 = .ok (.getfield 99, 3) := by decide +kernel
theorem dX7_move_60 : decode cX7_move 60 = .ok (.aload_n 0, 1) := by decide +kernel
theorem dX7_move_61 : decode cX7_move 61 = .ok (.getfield 60, 3) := by decide +kernel
theorem dX7_move_64 : decode cX7_move 64 = .ok (.invokevirtual 109, 3) := by decide +kernel
theorem dX7_move_67 : decode cX7_move 67 = .ok (.aload_n 0, 1) := by decide +kernel
theorem dX7_move_68 : decode cX7_move 68 = .ok (.getfield 34, 3) := by decide +kernel
theorem dX7_move_71 : decode cX7_move 71 = .ok (.iload_n 2, 1) := by decide +kernel
theorem dX7_move_72 : decode cX7_move 72 = .ok (.aaload, 1) := by decide +kernel
theorem dX7_move_73 : decode cX7_move 73 = .ok (.getfield 102, 3) := by decide +kernel
theorem dX7_move_76 : decode cX7_move 76 = .ok (.aload_n 0, 1) := by decide +kernel
theorem dX7_move_77 : decode cX7_move 77 = .ok (.getfield 57, 3) := by decide +kernel
theorem dX7_move_80 : decode cX7_move 80 = .ok (.invokestatic 119, 3) := by decide +kernel
theorem dX7_move_83 : decode cX7_move 83 = .ok (.aload_n 0, 1) := by decide +kernel
theorem dX7_move_84 : decode cX7_move 84 = .ok (.getfield 34, 3) := by decide +kernel
theorem dX7_move_87 : decode cX7_move 87 = .ok (.iload_n 1, 1) := by decide +kernel
theorem dX7_move_88 : decode cX7_move 88 = .ok (.aaload, 1) := by decide +kernel
theorem dX7_move_89 : decode cX7_move 89 = .ok (.aload_n 0, 1) := by decide +kernel
theorem dX7_move_90 : decode cX7_move 90 = .ok (.getfield 53, 3) := by decide +kernel
theorem dX7_move_93 : decode cX7_move 93 = .ok (.aload_n 0, 1) := by decide +kernel
theorem dX7_move_94 : decode cX7_move 94 = .ok (.getfield 57, 3) := by decide +kernel
theorem dX7_move_97 : decode cX7_move 97 = .ok (.invokevirtual 95, 3) := by decide +kernel
theorem dX7_move_100 : decode cX7_move 100 = .ok (.ireturn, 1) := by decide +kernel
theorem dX7_stretch_0 : decode cX7_stretch 0 = .ok (.iload_n 1, 1) := by decide +kernel
theorem dX7_stretch_1 : decode cX7_stretch 1 = .ok (.invokestatic 81, 3) := by decide +kernel
theorem dX7_stretch_4 : decode cX7_stretch 4 = .ok (.ifCond .eq 10, 3) := by decide +kernel
theorem dX7_stretch_7 : decode cX7_stretch 7 = .ok (.iload_n 2, 1) := by decide +kernel
theorem dX7_stretch_8 : decode cX7_stretch 8 = .ok (.invokestatic 81, 3) := by decide +kernel
theorem dX7_stretch_11 : decode cX7_stretch 11 = .ok (.ifCond .ne 6, 3) := by decide +kernel
theorem dX7_stretch_14 : decode cX7_stretch 14 = .ok (.bipush (-2), 2) := by decide +kernel
theorem dX7_stretch_16 : decode cX7_stretch 16 = .ok (.ireturn, 1) := by decide +kernel
theorem dX7_stretch_17 : decode cX7_stretch 17 = .ok (.iload_n 3, 1) := by decide +kernel
theorem dX7_stretch_18 : decode cX7_stretch 18 = .ok (.ifCond .eq 10, 3) := by decide +kernel
theorem dX7_stretch_21 : decode cX7_stretch 21 = .ok (.iload_n 3, 1) := by decide +kernel
theorem dX7_stretch_22 : decode cX7_stretch 22 = .ok (.invokestatic 126, 3) := by decide +kernel
theorem dX7_stretch_25 : decode cX7_stretch 25 = .ok (.ifCond .ne 6, 3) := by decide +kernel
theorem dX7_stretch_28 : decode cX7_stretch 28 = .ok (.bipush (-3), 2) := by decide +kernel
theorem dX7_stretch_30 : decode cX7_stretch 30 = .ok (.ireturn, 1) := by decide +kernel
theorem dX7_stretch_31 : decode cX7_stretch 31 = .ok (.aload_n 0, 1) := by decide +kernel
theorem dX7_stretch_32 : decode cX7_stretch 32 = .ok (.getfield 60, 3) := by decide +kernel
theorem dX7_stretch_35 : decode cX7_stretch 35 = .ok (.iconst 1, 1) := by decide +kernel
theorem dX7_stretch_36 : decode cX7_stretch 36 = .ok (.iload_n 3, 1) := by decide +kernel
theorem dX7_stretch_37 : decode cX7_stretch 37 = .ok (.invokestatic 139, 3) := by decide +kernel
theorem dX7_stretch_40 : decode cX7_stretch 40 = .ok (.invokestatic 122, 3) := by decide +kernel
theorem dX7_stretch_43 : decode cX7_stretch 43 = .ok (.aload_n 0, 1) := by decide +kernel
theorem dX7_stretch_44 : decode cX7_stretch 44 = .ok (.getfield 12, 3) := by decide +kernel
theorem dX7_stretch_47 : decode cX7_stretch 47 = .ok (.aload_n 0, 1) := by decide +kernel
theorem dX7_stretch_48 : decode cX7_stretch 48 = .ok (.getfield 53, 3) := by decide +kernel
theorem dX7_stretch_51 : decode cX7_stretch 51 = .ok (.aload_n 0, 1) := by decide +kernel
theorem dX7_stretch_52 : decode cX7_stretch 52 = .ok (.getfield 34, 3) := by decide +kernel
theorem dX7_stretch_55 : decode cX7_stretch 55 = .ok (.iload_n 2, 1) := by decide +kernel
theorem dX7_stretch_56 : decode cX7_stretch 56 = .ok (.aaload, 1) := by decide +kernel
theorem dX7_stretch_57 : decode cX7_stretch 57 = .ok (.getfield 99, 3) := by decide +kernel
theorem dX7_stretch_60 : decode cX7_stretch 60 = .ok (.aload_n 0, 1) := by decide +kernel
theorem dX7_stretch_61 : decode cX7_stretch 61 = .ok (.getfield 60, 3) := by decide +kernel
theorem dX7_stretch_64 : decode cX7_stretch 64 = .ok (.invokevirtual 105, 3) := by decide +kernel
theorem dX7_stretch_67 : decode cX7_stretch 67 = .ok (.aload_n 0, 1) := by decide +kernel
theorem dX7_stretch_68 : decode cX7_stretch 68 = .ok (.getfield 12, 3) := by decide +kernel
theorem dX7_stretch_71 : decode cX7_stretch 71 = .ok (.aload_n 0, 1) := by decide +kernel
theorem dX7_stretch_72 : decode cX7_stretch 72 = .ok (.getfield 57, 3) := by decide +kernel
theorem dX7_stretch_75 : decode cX7_stretch 75 = .ok (.aload_n 0, 1) := by decide +kernel
theorem dX7_stretch_76 : decode cX7_stretch 76 = .ok (.getfield 34, 3) := by decide +kernel
theorem dX7_stretch_79 : decode cX7_stretch 79 = .ok (.iload_n 2, 1) := by decide +kernel
theorem dX7_stretch_80 : decode cX7_stretch 80 = .ok (.aaload, 1) := by decide +kernel
theorem dX7_stretch_81 : decode cX7_stretch 81 = .ok (.getfield 102, 3) := by decide +kernel
theorem dX7_stretch_84 : decode cX7_stretch 84 = .ok (.aload_n 0, 1) := by decide +kernel
theorem dX7_stretch_85 : decode cX7_stretch 85 = .ok (.getfield 60, 3) := by decide +kernel
theorem dX7_stretch_88 : decode cX7_stretch 88 = .ok (.invokevirtual 105, 3) := by decide +kernel
theorem dX7_stretch_91 : decode cX7_stretch 91 = .ok (.aload_n 0, 1) := by decide +kernel
theorem dX7_stretch_92 : decode cX7_stretch 92 = .ok (.getfield 34, 3) := by decide +kernel
theorem dX7_stretch_95 : decode cX7_stretch 95 = .ok (.iload_n 1, 1) := by decide +kernel
theorem dX7_stretch_96 : decode cX7_stretch 96 = .ok (.aaload, 1) := by decide +kernel
theorem dX7_stretch_97 : decode cX7_stretch 97 = .ok (.aload_n 0, 1) := by decide +kernel
theorem dX7_stretch_98 : decode cX7_stretch 98 = .ok (.getfield 53, 3) := by decide +kernel
theorem dX7_stretch_101 : decode cX7_stretch 101 = .ok (.aload_n 0, 1) := by decide +kernel
theorem dX7_stretch_102 : decode cX7_stretch 102 = .ok (.getfield 57, 3) := by decide +kernel
theorem dX7_stretch_105 : decode cX7_stretch 105 = .ok (.invokevirtual 95, 3) := by decide +kernel
theorem dX7_stretch_108 : decode cX7_stretch 108 = .ok (.ireturn, 1) := by decide +kernel
theorem dX7_series_0 : decode cX7_series 0 = .ok (.iload_n 1, 1) := by decide +kernel
theorem dX7_series_1 : decode cX7_series 1 = .ok (.invokestatic 81, 3) := by decide +kernel
theorem dX7_series_4 : decode cX7_series 4 = .ok (.ifCond .ne 6, 3) := by decide +kernel
theorem dX7_series_7 : decode cX7_series 7 = .ok (.bipush (-2), 2) := by decide +kernel
theorem dX7_series_9 : decode cX7_series 9 = .ok (.ireturn, 1) := by decide +kernel
theorem dX7_series_10 : decode cX7_series 10 = .ok (.iload_n 2, 1) := by decide +kernel
theorem dX7_series_11 : decode cX7_series 11 = .ok (.ifCond .lt 15, 3) := by decide +kernel
theorem dX7_series_14 : decode cX7_series 14 = .ok (.iload_n 2, 1) := by decide +kernel
theorem dX7_series_15 : decode cX7_series 15 = .ok (.iconst 3, 1) := by decide +kernel
theorem dX7_series_16 : decode cX7_series 16 = .ok (.if_icmp .gt 10, 3) := by decide +kernel
theorem dX7_series_19 : decode cX7_series 19 = .ok (.iload_n 3, 1) := by decide +kernel
theorem dX7_series_20 : decode cX7_series 20 = .ok (.invokestatic 143, 3) := by decide +kernel
theorem dX7_series_23 : decode cX7_series 23 = .ok (.ifCond .ne 6, 3) := by decide +kernel
theorem dX7_series_26 : decode cX7_series 26 = .ok (.bipush (-3), 2) := by decide +kernel
theorem dX7_series_28 : decode cX7_series 28 = .ok (.ireturn, 1) := by decide +kernel
theorem dX7_series_29 : decode cX7_series 29 = .ok (.aload_n 0, 1) := by decide +kernel
theorem dX7_series_30 : decode cX7_series 30 = .ok (.getfield 34, 3) := by decide +kernel
theorem dX7_series_33 : decode cX7_series 33 = .ok (.iload_n 1, 1) := by decide +kernel
theorem dX7_series_34 : decode cX7_series 34 = .ok (.aaload, 1) := by decide +kernel
theorem dX7_series_35 : decode cX7_series 35 = .ok (.iload_n 2, 1) := by decide +kernel
theorem dX7_series_36 : decode cX7_series 36 = .ok (.invokevirtual 146, 3) := by decide +kernel
theorem dX7_series_39 : decode cX7_series 39 = .ok (.iload_n 3, 1) := by decide +kernel
theorem dX7_series_40 : decode cX7_series 40 = .ok (.iaload, 1) := by decide +kernel
theorem dX7_series_41 : decode cX7_series 41 = .ok (.ireturn, 1) := by decide +kernel
theorem dX7_polynomial_0 : decode cX7_polynomial 0 = .ok (.iload_n 1, 1) := by decide +kernel
theorem dX7_polynomial_1 : decode cX7_polynomial 1 = .ok (.invokestatic 81, 3) := by decide +kernel
theorem dX7_polynomial_4 : decode cX7_polynomial 4 = .ok (.ifCond .ne 6, 3) := by decide +kernel
theorem dX7_polynomial_7 : decode cX7_polynomial 7 = .ok (.bipush (-2), 2) := by decide +kernel
theorem dX7_polynomial_9 : decode cX7_polynomial 9 = .ok (.ireturn, 1) := by decide +kernel
theorem dX7_polynomial_10 : decode cX7_polynomial 10 = .ok (.iload_n 2, 1) := by decide +kernel
theorem dX7_polynomial_11 : decode cX7_polynomial 11 = .ok (.invokestatic 143, 3) := by decide +kernel
theorem dX7_polynomial_14 : decode cX7_polynomial 14 = .ok (.ifCond .eq 10, 3) := by decide +kernel
theorem dX7_polynomial_17 : decode cX7_polynomial 17 = .ok (.iload_n 3, 1) := by decide +kernel
theorem dX7_polynomial_18 : decode cX7_polynomial 18 = .ok (.invokestatic 143, 3) := by decide +kernel
theorem dX7_polynomial_21 : decode cX7_polynomial 21 = .ok (.ifCond .ne 6, 3) := by decide +kernel
theorem dX7_polynomial_24 : decode cX7_polynomial 24 = .ok (.bipush (-3), 2) := by decide +kernel
theorem dX7_polynomial_26 : decode cX7_polynomial 26 = .ok (.ireturn, 1) := by decide +kernel
theorem dX7_polynomial_27 : decode cX7_polynomial 27 = .ok (.aload_n 0, 1) := by decide +kernel
theorem dX7_polynomial_28 : decode cX7_polynomial 28 = .ok (.getfield 34, 3) := by decide +kernel
theorem dX7_polynomial_31 : decode cX7_polynomial 31 = .ok (.iload_n 1, 1) := by decide +kernel
theorem dX7_polynomial_32 : decode cX7_polynomial 32 = .ok (.aaload, 1) := by decide +kernel
theorem dX7_polynomial_33 : decode cX7_polynomial 33 = .ok (.getfield 150, 3) := by decide +kernel
theorem dX7_polynomial_36 : decode cX7_polynomial 36 = .ok (.iload_n 2, 1) := by decide +kernel
theorem dX7_polynomial_37 : decode cX7_polynomial 37 = .ok (.aaload, 1) := by decide +kernel
theorem dX7_polynomial_38 : decode cX7_polynomial 38 = .ok (.iload_n 3, 1) := by decide +kernel
theorem dX7_polynomial_39 : decode cX7_polynomial 39 = .ok (.iaload, 1) := by decide +kernel
theorem dX7_polynomial_40 : decode cX7_polynomial 40 = .ok (.ireturn, 1) := by decide +kernel
theorem dX7_value_0 : decode cX7_value 0 = .ok (.iload_n 1, 1) := by decide +kernel
theorem dX7_value_1 : decode cX7_value 1 = .ok (.invokestatic 81, 3) := by decide +kernel
theorem dX7_value_4 : decode cX7_value 4 = .ok (.ifCond .ne 6, 3) := by decide +kernel
theorem dX7_value_7 : decode cX7_value 7 = .ok (.bipush (-2), 2) := by decide +kernel
theorem dX7_value_9 : decode cX7_value 9 = .ok (.ireturn, 1) := by decide +kernel
theorem dX7_value_10 : decode cX7_value 10 = .ok (.iload_n 2, 1) := by decide +kernel
theorem dX7_value_11 : decode cX7_value 11 = .ok (.invokestatic 143, 3) := by decide +kernel
theorem dX7_value_14 : decode cX7_value 14 = .ok (.ifCond .eq 10, 3) := by decide +kernel
theorem dX7_value_17 : decode cX7_value 17 = .ok (.iload_n 3, 1) := by decide +kernel
theorem dX7_value_18 : decode cX7_value 18 = .ok (.invokestatic 126, 3) := by decide +kernel
theorem dX7_value_21 : decode cX7_value 21 = .ok (.ifCond .ne 6, 3) := by decide +kernel
theorem dX7_value_24 : decode cX7_value 24 = .ok (.bipush (-3), 2) := by decide +kernel
theorem dX7_value_26 : decode cX7_value 26 = .ok (.ireturn, 1) := by decide +kernel
theorem dX7_value_27 : decode cX7_value 27 = .ok (.aload_n 0, 1) := by decide +kernel
theorem dX7_value_28 : decode cX7_value 28 = .ok (.getfield 34, 3) := by decide +kernel
theorem dX7_value_31 : decode cX7_value 31 = .ok (.iload_n 1, 1) := by decide +kernel
theorem dX7_value_32 : decode cX7_value 32 = .ok (.aaload, 1) := by decide +kernel
theorem dX7_value_33 : decode cX7_value 33 = .ok (.getfield 150, 3) := by decide +kernel
theorem dX7_value_36 : decode cX7_value 36 = .ok (.iload_n 2, 1) := by decide +kernel
theorem dX7_value_37 : decode cX7_value 37 = .ok (.aaload, 1) := by decide +kernel
theorem dX7_value_38 : decode cX7_value 38 = .ok (.iload_n 3, 1) := by decide +kernel
theorem dX7_value_39 : decode cX7_value 39 = .ok (.invokestatic 154, 3) := by decide +kernel
theorem dX7_value_42 : decode cX7_value 42 = .ok (.ireturn, 1) := by decide +kernel
theorem dX7_connect_0 : decode cX7_connect 0 = .ok (.iload_n 1, 1) := by decide +kernel
theorem dX7_connect_1 : decode cX7_connect 1 = .ok (.invokestatic 81, 3) := by decide +kernel
theorem dX7_connect_4 : decode cX7_connect 4 = .ok (.ifCond .eq 10, 3) := by decide +kernel
theorem dX7_connect_7 : decode cX7_connect 7 = .ok (.iload_n 2, 1) := by decide +kernel
theorem dX7_connect_8 : decode cX7_connect 8 = .ok (.invokestatic 81, 3) := by decide +kernel
theorem dX7_connect_11 : decode cX7_connect 11 = .ok (.ifCond .ne 6, 3) := by decide +kernel
theorem dX7_connect_14 : decode cX7_connect 14 = .ok (.bipush (-2), 2) := by decide +kernel
theorem dX7_connect_16 : decode cX7_connect 16 = .ok (.ireturn, 1) := by decide +kernel
theorem dX7_connect_17 : decode cX7_connect 17 = .ok (.iload_n 3, 1) := by decide +kernel
theorem dX7_connect_18 : decode cX7_connect 18 = .ok (.invokestatic 143, 3) := by decide +kernel
theorem dX7_connect_21 : decode cX7_connect 21 = .ok (.ifCond .eq 11, 3) := by decide +kernel
theorem dX7_connect_24 : decode cX7_connect 24 = .ok (.iload 4, 2) := by decide +kernel
theorem dX7_connect_26 : decode cX7_connect 26 = .ok (.invokestatic 143, 3) := by decide +kernel
theorem dX7_connect_29 : decode cX7_connect 29 = .ok (.ifCond .ne 6, 3) := by decide +kernel
theorem dX7_connect_32 : decode cX7_connect 32 = .ok (.bipush (-3), 2) := by decide +kernel
theorem dX7_connect_34 : decode cX7_connect 34 = .ok (.ireturn, 1) := by decide +kernel
theorem dX7_connect_35 : decode cX7_connect 35 = .ok (.aload_n 0, 1) := by decide +kernel
theorem dX7_connect_36 : decode cX7_connect 36 = .ok (.getfield 34, 3) := by decide +kernel
theorem dX7_connect_39 : decode cX7_connect 39 = .ok (.iload_n 2, 1) := by decide +kernel
theorem dX7_connect_40 : decode cX7_connect 40 = .ok (.aaload, 1) := by decide +kernel
theorem dX7_connect_41 : decode cX7_connect 41 = .ok (.aload_n 0, 1) := by decide +kernel
theorem dX7_connect_42 : decode cX7_connect 42 = .ok (.getfield 63, 3) := by decide +kernel
theorem dX7_connect_45 : decode cX7_connect 45 = .ok (.aload_n 0, 1) := by decide +kernel
theorem dX7_connect_46 : decode cX7_connect 46 = .ok (.getfield 34, 3) := by decide +kernel
theorem dX7_connect_49 : decode cX7_connect 49 = .ok (.iload_n 1, 1) := by decide +kernel
theorem dX7_connect_50 : decode cX7_connect 50 = .ok (.aaload, 1) := by decide +kernel
theorem dX7_connect_51 : decode cX7_connect 51 = .ok (.getfield 150, 3) := by decide +kernel
theorem dX7_connect_54 : decode cX7_connect 54 = .ok (.iload_n 3, 1) := by decide +kernel
theorem dX7_connect_55 : decode cX7_connect 55 = .ok (.aaload, 1) := by decide +kernel
theorem dX7_connect_56 : decode cX7_connect 56 = .ok (.invokevirtual 158, 3) := by decide +kernel
theorem dX7_connect_59 : decode cX7_connect 59 = .ok (.aload_n 0, 1) := by decide +kernel
theorem dX7_connect_60 : decode cX7_connect 60 = .ok (.getfield 63, 3) := by decide +kernel
theorem dX7_connect_63 : decode cX7_connect 63 = .ok (.iload 4, 2) := by decide +kernel
theorem dX7_connect_65 : decode cX7_connect 65 = .ok (.iaload, 1) := by decide +kernel
theorem dX7_connect_66 : decode cX7_connect 66 = .ok (.ireturn, 1) := by decide +kernel
theorem dX7_differ_0 : decode cX7_differ 0 = .ok (.iload_n 1, 1) := by decide +kernel
theorem dX7_differ_1 : decode cX7_differ 1 = .ok (.invokestatic 81, 3) := by decide +kernel
theorem dX7_differ_4 : decode cX7_differ 4 = .ok (.ifCond .eq 10, 3) := by decide +kernel
theorem dX7_differ_7 : decode cX7_differ 7 = .ok (.iload_n 2, 1) := by decide +kernel
theorem dX7_differ_8 : decode cX7_differ 8 = .ok (.invokestatic 81, 3) := by decide +kernel
theorem dX7_differ_11 : decode cX7_differ 11 = .ok (.ifCond .ne 6, 3) := by decide +kernel
theorem dX7_differ_14 : decode cX7_differ 14 = .ok (.bipush (-2), 2) := by decide +kernel
theorem dX7_differ_16 : decode cX7_differ 16 = .ok (.ireturn, 1) := by decide +kernel
theorem dX7_differ_17 : decode cX7_differ 17 = .ok (.iconst 0, 1) := by decide +kernel
theorem dX7_differ_18 : decode cX7_differ 18 = .ok (.istore_n 3, 1) := by decide +kernel
theorem dX7_differ_19 : decode cX7_differ 19 = .ok (.iload_n 3, 1) := by decide +kernel
theorem dX7_differ_20 : decode cX7_differ 20 = .ok (.bipush 9, 2) := by decide +kernel
theorem dX7_differ_22 : decode cX7_differ 22 = .ok (.if_icmp .ge 39, 3) := by decide +kernel
theorem dX7_differ_25 : decode cX7_differ 25 = .ok (.aload_n 0, 1) := by decide +kernel
theorem dX7_differ_26 : decode cX7_differ 26 = .ok (.getfield 34, 3) := by decide +kernel
theorem dX7_differ_29 : decode cX7_differ 29 = .ok (.iload_n 1, 1) := by decide +kernel
theorem dX7_differ_30 : decode cX7_differ 30 = .ok (.aaload, 1) := by decide +kernel
theorem dX7_differ_31 : decode cX7_differ 31 = .ok (.getfield 150, 3) := by decide +kernel
theorem dX7_differ_34 : decode cX7_differ 34 = .ok (.iload_n 3, 1) := by decide +kernel
theorem dX7_differ_35 : decode cX7_differ 35 = .ok (.aaload, 1) := by decide +kernel
theorem dX7_differ_36 : decode cX7_differ 36 = .ok (.aload_n 0, 1) := by decide +kernel
theorem dX7_differ_37 : decode cX7_differ 37 = .ok (.getfield 34, 3) := by decide +kernel
theorem dX7_differ_40 : decode cX7_differ 40 = .ok (.iload_n 2, 1) := by decide +kernel
theorem dX7_differ_41 : decode cX7_differ 41 = .ok (.aaload, 1) := by decide +kernel
theorem dX7_differ_42 : decode cX7_differ 42 = .ok (.getfield 150, 3) := by decide +kernel
theorem dX7_differ_45 : decode cX7_differ 45 = .ok (.iload_n 3, 1) := by decide +kernel
theorem dX7_differ_46 : decode cX7_differ 46 = .ok (.aaload, 1) := by decide +kernel
theorem dX7_differ_47 : decode cX7_differ 47 = .ok (.invokestatic 161, 3) := by decide +kernel
theorem dX7_differ_50 : decode cX7_differ 50 = .ok (.ifCond .ne 5, 3) := by decide +kernel
theorem dX7_differ_53 : decode cX7_differ 53 = .ok (.iload_n 3, 1) := by decide +kernel
theorem dX7_differ_54 : decode cX7_differ 54 = .ok (.ireturn, 1) := by decide +kernel
theorem dX7_differ_55 : decode cX7_differ 55 = .ok (.iinc 3 1, 3) := by decide +kernel
theorem dX7_differ_58 : decode cX7_differ 58 = .ok (.goto (-39), 3) := by decide +kernel
theorem dX7_differ_61 : decode cX7_differ 61 = .ok (.iconst (-1), 1) := by decide +kernel
theorem dX7_differ_62 : decode cX7_differ 62 = .ok (.ireturn, 1) := by decide +kernel
theorem dX7_take_0 : decode cX7_take 0 = .ok (.iload_n 1, 1) := by decide +kernel
theorem dX7_take_1 : decode cX7_take 1 = .ok (.invokestatic 81, 3) := by decide +kernel
theorem dX7_take_4 : decode cX7_take 4 = .ok (.ifCond .ne 6, 3) := by decide +kernel
theorem dX7_take_7 : decode cX7_take 7 = .ok (.bipush (-2), 2) := by decide +kernel
theorem dX7_take_9 : decode cX7_take 9 = .ok (.ireturn, 1) := by decide +kernel
theorem dX7_take_10 : decode cX7_take 10 = .ok (.iload_n 2, 1) := by decide +kernel
theorem dX7_take_11 : decode cX7_take 11 = .ok (.invokestatic 143, 3) := by decide +kernel
theorem dX7_take_14 : decode cX7_take 14 = .ok (.ifCond .ne 6, 3) := by decide +kernel
theorem dX7_take_17 : decode cX7_take 17 = .ok (.bipush (-3), 2) := by decide +kernel
theorem dX7_take_19 : decode cX7_take 19 = .ok (.ireturn, 1) := by decide +kernel
theorem dX7_take_20 : decode cX7_take 20 = .ok (.aload_n 0, 1) := by decide +kernel
theorem dX7_take_21 : decode cX7_take 21 = .ok (.getfield 42, 3) := by decide +kernel
theorem dX7_take_24 : decode cX7_take 24 = .ok (.invokevirtual 165, 3) := by decide +kernel
theorem dX7_take_27 : decode cX7_take 27 = .ok (.aload_n 0, 1) := by decide +kernel
theorem dX7_take_28 : decode cX7_take 28 = .ok (.getfield 34, 3) := by decide +kernel
theorem dX7_take_31 : decode cX7_take 31 = .ok (.iload_n 1, 1) := by decide +kernel
theorem dX7_take_32 : decode cX7_take 32 = .ok (.aaload, 1) := by decide +kernel
theorem dX7_take_33 : decode cX7_take 33 = .ok (.getfield 150, 3) := by decide +kernel
theorem dX7_take_36 : decode cX7_take 36 = .ok (.iload_n 2, 1) := by decide +kernel
theorem dX7_take_37 : decode cX7_take 37 = .ok (.aaload, 1) := by decide +kernel
theorem dX7_take_38 : decode cX7_take 38 = .ok (.aload_n 0, 1) := by decide +kernel
theorem dX7_take_39 : decode cX7_take 39 = .ok (.getfield 42, 3) := by decide +kernel
theorem dX7_take_42 : decode cX7_take 42 = .ok (.getfield 168, 3) := by decide +kernel
theorem dX7_take_45 : decode cX7_take 45 = .ok (.invokestatic 119, 3) := by decide +kernel
theorem dX7_take_48 : decode cX7_take 48 = .ok (.aload_n 0, 1) := by decide +kernel
theorem dX7_take_49 : decode cX7_take 49 = .ok (.getfield 42, 3) := by decide +kernel
theorem dX7_take_52 : decode cX7_take 52 = .ok (.getfield 168, 3) := by decide +kernel
theorem dX7_take_55 : decode cX7_take 55 = .ok (.iload_n 2, 1) := by decide +kernel
theorem dX7_take_56 : decode cX7_take 56 = .ok (.iaload, 1) := by decide +kernel
theorem dX7_take_57 : decode cX7_take 57 = .ok (.ireturn, 1) := by decide +kernel
theorem dX7_put_0 : decode cX7_put 0 = .ok (.iload_n 1, 1) := by decide +kernel
theorem dX7_put_1 : decode cX7_put 1 = .ok (.invokestatic 143, 3) := by decide +kernel
theorem dX7_put_4 : decode cX7_put 4 = .ok (.ifCond .eq 10, 3) := by decide +kernel
theorem dX7_put_7 : decode cX7_put 7 = .ok (.iload_n 2, 1) := by decide +kernel
theorem dX7_put_8 : decode cX7_put 8 = .ok (.invokestatic 126, 3) := by decide +kernel
theorem dX7_put_11 : decode cX7_put 11 = .ok (.ifCond .ne 6, 3) := by decide +kernel
theorem dX7_put_14 : decode cX7_put 14 = .ok (.bipush (-3), 2) := by decide +kernel
theorem dX7_put_16 : decode cX7_put 16 = .ok (.ireturn, 1) := by decide +kernel
theorem dX7_put_17 : decode cX7_put 17 = .ok (.aload_n 0, 1) := by decide +kernel
theorem dX7_put_18 : decode cX7_put 18 = .ok (.getfield 42, 3) := by decide +kernel
theorem dX7_put_21 : decode cX7_put 21 = .ok (.invokevirtual 165, 3) := by decide +kernel
theorem dX7_put_24 : decode cX7_put 24 = .ok (.aload_n 0, 1) := by decide +kernel
theorem dX7_put_25 : decode cX7_put 25 = .ok (.getfield 42, 3) := by decide +kernel
theorem dX7_put_28 : decode cX7_put 28 = .ok (.getfield 168, 3) := by decide +kernel
theorem dX7_put_31 : decode cX7_put 31 = .ok (.iload_n 1, 1) := by decide +kernel
theorem dX7_put_32 : decode cX7_put 32 = .ok (.iaload, 1) := by decide +kernel
theorem dX7_put_33 : decode cX7_put 33 = .ok (.istore_n 3, 1) := by decide +kernel
theorem dX7_put_34 : decode cX7_put 34 = .ok (.aload_n 0, 1) := by decide +kernel
theorem dX7_put_35 : decode cX7_put 35 = .ok (.getfield 42, 3) := by decide +kernel
theorem dX7_put_38 : decode cX7_put 38 = .ok (.getfield 168, 3) := by decide +kernel
theorem dX7_put_41 : decode cX7_put 41 = .ok (.iload_n 1, 1) := by decide +kernel
theorem dX7_put_42 : decode cX7_put 42 = .ok (.iload_n 2, 1) := by decide +kernel
theorem dX7_put_43 : decode cX7_put 43 = .ok (.iastore, 1) := by decide +kernel
theorem dX7_put_44 : decode cX7_put 44 = .ok (.iload_n 3, 1) := by decide +kernel
theorem dX7_put_45 : decode cX7_put 45 = .ok (.ireturn, 1) := by decide +kernel
theorem dX7_plus_0 : decode cX7_plus 0 = .ok (.iload_n 1, 1) := by decide +kernel
theorem dX7_plus_1 : decode cX7_plus 1 = .ok (.invokestatic 81, 3) := by decide +kernel
theorem dX7_plus_4 : decode cX7_plus 4 = .ok (.ifCond .ne 6, 3) := by decide +kernel
theorem dX7_plus_7 : decode cX7_plus 7 = .ok (.bipush (-2), 2) := by decide +kernel
theorem dX7_plus_9 : decode cX7_plus 9 = .ok (.ireturn, 1) := by decide +kernel
theorem dX7_plus_10 : decode cX7_plus 10 = .ok (.iload_n 2, 1) := by decide +kernel
theorem dX7_plus_11 : decode cX7_plus 11 = .ok (.invokestatic 143, 3) := by decide +kernel
theorem dX7_plus_14 : decode cX7_plus 14 = .ok (.ifCond .eq 10, 3) := by decide +kernel
theorem dX7_plus_17 : decode cX7_plus 17 = .ok (.iload_n 3, 1) := by decide +kernel
theorem dX7_plus_18 : decode cX7_plus 18 = .ok (.invokestatic 126, 3) := by decide +kernel
theorem dX7_plus_21 : decode cX7_plus 21 = .ok (.ifCond .ne 6, 3) := by decide +kernel
theorem dX7_plus_24 : decode cX7_plus 24 = .ok (.bipush (-3), 2) := by decide +kernel
theorem dX7_plus_26 : decode cX7_plus 26 = .ok (.ireturn, 1) := by decide +kernel
theorem dX7_plus_27 : decode cX7_plus 27 = .ok (.aload_n 0, 1) := by decide +kernel
theorem dX7_plus_28 : decode cX7_plus 28 = .ok (.getfield 42, 3) := by decide +kernel
theorem dX7_plus_31 : decode cX7_plus 31 = .ok (.invokevirtual 165, 3) := by decide +kernel
theorem dX7_plus_34 : decode cX7_plus 34 = .ok (.aload_n 0, 1) := by decide +kernel
theorem dX7_plus_35 : decode cX7_plus 35 = .ok (.getfield 42, 3) := by decide +kernel
theorem dX7_plus_38 : decode cX7_plus 38 = .ok (.getfield 168, 3) := by decide +kernel
theorem dX7_plus_41 : decode cX7_plus 41 = .ok (.aload_n 0, 1) := by decide +kernel
theorem dX7_plus_42 : decode cX7_plus 42 = .ok (.getfield 34, 3) := by decide +kernel
theorem dX7_plus_45 : decode cX7_plus 45 = .ok (.iload_n 1, 1) := by decide +kernel
theorem dX7_plus_46 : decode cX7_plus 46 = .ok (.aaload, 1) := by decide +kernel
theorem dX7_plus_47 : decode cX7_plus 47 = .ok (.getfield 150, 3) := by decide +kernel
theorem dX7_plus_50 : decode cX7_plus 50 = .ok (.iload_n 2, 1) := by decide +kernel
theorem dX7_plus_51 : decode cX7_plus 51 = .ok (.aaload, 1) := by decide +kernel
theorem dX7_plus_52 : decode cX7_plus 52 = .ok (.iload_n 3, 1) := by decide +kernel
theorem dX7_plus_53 : decode cX7_plus 53 = .ok (.invokestatic 171, 3) := by decide +kernel
theorem dX7_plus_56 : decode cX7_plus 56 = .ok (.aload_n 0, 1) := by decide +kernel
theorem dX7_plus_57 : decode cX7_plus 57 = .ok (.getfield 42, 3) := by decide +kernel
theorem dX7_plus_60 : decode cX7_plus 60 = .ok (.getfield 168, 3) := by decide +kernel
theorem dX7_plus_63 : decode cX7_plus 63 = .ok (.iconst 0, 1) := by decide +kernel
theorem dX7_plus_64 : decode cX7_plus 64 = .ok (.iaload, 1) := by decide +kernel
theorem dX7_plus_65 : decode cX7_plus 65 = .ok (.ireturn, 1) := by decide +kernel
theorem dX7_act_0 : decode cX7_act 0 = .ok (.iload_n 1, 1) := by decide +kernel
theorem dX7_act_1 : decode cX7_act 1 = .ok (.invokestatic 81, 3) := by decide +kernel
theorem dX7_act_4 : decode cX7_act 4 = .ok (.ifCond .ne 6, 3) := by decide +kernel
theorem dX7_act_7 : decode cX7_act 7 = .ok (.bipush (-2), 2) := by decide +kernel
theorem dX7_act_9 : decode cX7_act 9 = .ok (.ireturn, 1) := by decide +kernel
theorem dX7_act_10 : decode cX7_act 10 = .ok (.iload_n 2, 1) := by decide +kernel
theorem dX7_act_11 : decode cX7_act 11 = .ok (.ifCond .lt 8, 3) := by decide +kernel
theorem dX7_act_14 : decode cX7_act 14 = .ok (.iload_n 2, 1) := by decide +kernel
theorem dX7_act_15 : decode cX7_act 15 = .ok (.iconst 2, 1) := by decide +kernel
theorem dX7_act_16 : decode cX7_act 16 = .ok (.if_icmp .le 6, 3) := by decide +kernel
theorem dX7_act_19 : decode cX7_act 19 = .ok (.bipush (-3), 2) := by decide +kernel
theorem dX7_act_21 : decode cX7_act 21 = .ok (.ireturn, 1) := by decide +kernel
theorem dX7_act_22 : decode cX7_act 22 = .ok (.aload_n 0, 1) := by decide +kernel
theorem dX7_act_23 : decode cX7_act 23 = .ok (.getfield 42, 3) := by decide +kernel
theorem dX7_act_26 : decode cX7_act 26 = .ok (.invokevirtual 165, 3) := by decide +kernel
theorem dX7_act_29 : decode cX7_act 29 = .ok (.aload_n 0, 1) := by decide +kernel
theorem dX7_act_30 : decode cX7_act 30 = .ok (.getfield 12, 3) := by decide +kernel
theorem dX7_act_33 : decode cX7_act 33 = .ok (.aload_n 0, 1) := by decide +kernel
theorem dX7_act_34 : decode cX7_act 34 = .ok (.getfield 42, 3) := by decide +kernel
theorem dX7_act_37 : decode cX7_act 37 = .ok (.getfield 168, 3) := by decide +kernel
theorem dX7_act_40 : decode cX7_act 40 = .ok (.aload_n 0, 1) := by decide +kernel
theorem dX7_act_41 : decode cX7_act 41 = .ok (.getfield 34, 3) := by decide +kernel
theorem dX7_act_44 : decode cX7_act 44 = .ok (.iload_n 1, 1) := by decide +kernel
theorem dX7_act_45 : decode cX7_act 45 = .ok (.aaload, 1) := by decide +kernel
theorem dX7_act_46 : decode cX7_act 46 = .ok (.iload_n 2, 1) := by decide +kernel
theorem dX7_act_47 : decode cX7_act 47 = .ok (.invokevirtual 146, 3) := by decide +kernel
theorem dX7_act_50 : decode cX7_act 50 = .ok (.invokevirtual 175, 3) := by decide +kernel
theorem dX7_act_53 : decode cX7_act 53 = .ok (.aload_n 0, 1) := by decide +kernel
theorem dX7_act_54 : decode cX7_act 54 = .ok (.getfield 42, 3) := by decide +kernel
theorem dX7_act_57 : decode cX7_act 57 = .ok (.getfield 168, 3) := by decide +kernel
theorem dX7_act_60 : decode cX7_act 60 = .ok (.iconst 0, 1) := by decide +kernel
theorem dX7_act_61 : decode cX7_act 61 = .ok (.iaload, 1) := by decide +kernel
theorem dX7_act_62 : decode cX7_act 62 = .ok (.ireturn, 1) := by decide +kernel
theorem dX7_raise_0 : decode cX7_raise 0 = .ok (.iload_n 1, 1) := by decide +kernel
theorem dX7_raise_1 : decode cX7_raise 1 = .ok (.invokestatic 81, 3) := by decide +kernel
theorem dX7_raise_4 : decode cX7_raise 4 = .ok (.ifCond .ne 6, 3) := by decide +kernel
theorem dX7_raise_7 : decode cX7_raise 7 = .ok (.bipush (-2), 2) := by decide +kernel
theorem dX7_raise_9 : decode cX7_raise 9 = .ok (.ireturn, 1) := by decide +kernel
theorem dX7_raise_10 : decode cX7_raise 10 = .ok (.aload_n 0, 1) := by decide +kernel
theorem dX7_raise_11 : decode cX7_raise 11 = .ok (.getfield 42, 3) := by decide +kernel
theorem dX7_raise_14 : decode cX7_raise 14 = .ok (.invokevirtual 178, 3) := by decide +kernel
theorem dX7_raise_17 : decode cX7_raise 17 = .ok (.ifCond .eq 6, 3) := by decide +kernel
theorem dX7_raise_20 : decode cX7_raise 20 = .ok (.bipush (-4), 2) := by decide +kernel
theorem dX7_raise_22 : decode cX7_raise 22 = .ok (.ireturn, 1) := by decide +kernel
theorem dX7_raise_23 : decode cX7_raise 23 = .ok (.aload_n 0, 1) := by decide +kernel
theorem dX7_raise_24 : decode cX7_raise 24 = .ok (.getfield 42, 3) := by decide +kernel
theorem dX7_raise_27 : decode cX7_raise 27 = .ok (.invokevirtual 165, 3) := by decide +kernel
theorem dX7_raise_30 : decode cX7_raise 30 = .ok (.aload_n 0, 1) := by decide +kernel
theorem dX7_raise_31 : decode cX7_raise 31 = .ok (.getfield 12, 3) := by decide +kernel
theorem dX7_raise_34 : decode cX7_raise 34 = .ok (.aload_n 0, 1) := by decide +kernel
theorem dX7_raise_35 : decode cX7_raise 35 = .ok (.getfield 42, 3) := by decide +kernel
theorem dX7_raise_38 : decode cX7_raise 38 = .ok (.getfield 168, 3) := by decide +kernel
theorem dX7_raise_41 : decode cX7_raise 41 = .ok (.aload_n 0, 1) := by decide +kernel
theorem dX7_raise_42 : decode cX7_raise 42 = .ok (.getfield 34, 3) := by decide +kernel
theorem dX7_raise_45 : decode cX7_raise 45 = .ok (.iload_n 1, 1) := by decide +kernel
theorem dX7_raise_46 : decode cX7_raise 46 = .ok (.aaload, 1) := by decide +kernel
theorem dX7_raise_47 : decode cX7_raise 47 = .ok (.getfield 102, 3) := by decide +kernel
theorem dX7_raise_50 : decode cX7_raise 50 = .ok (.invokevirtual 182, 3) := by decide +kernel
theorem dX7_raise_53 : decode cX7_raise 53 = .ok (.aload_n 0, 1) := by decide +kernel
theorem dX7_raise_54 : decode cX7_raise 54 = .ok (.getfield 42, 3) := by decide +kernel
theorem dX7_raise_57 : decode cX7_raise 57 = .ok (.getfield 168, 3) := by decide +kernel
theorem dX7_raise_60 : decode cX7_raise 60 = .ok (.iconst 1, 1) := by decide +kernel
theorem dX7_raise_61 : decode cX7_raise 61 = .ok (.invokestatic 154, 3) := by decide +kernel
theorem dX7_raise_64 : decode cX7_raise 64 = .ok (.ireturn, 1) := by decide +kernel
theorem dX7_shift_0 : decode cX7_shift 0 = .ok (.iload_n 1, 1) := by decide +kernel
theorem dX7_shift_1 : decode cX7_shift 1 = .ok (.invokestatic 126, 3) := by decide +kernel
theorem dX7_shift_4 : decode cX7_shift 4 = .ok (.ifCond .ne 6, 3) := by decide +kernel
theorem dX7_shift_7 : decode cX7_shift 7 = .ok (.bipush (-3), 2) := by decide +kernel
theorem dX7_shift_9 : decode cX7_shift 9 = .ok (.ireturn, 1) := by decide +kernel
theorem dX7_shift_10 : decode cX7_shift 10 = .ok (.aload_n 0, 1) := by decide +kernel
theorem dX7_shift_11 : decode cX7_shift 11 = .ok (.getfield 42, 3) := by decide +kernel
theorem dX7_shift_14 : decode cX7_shift 14 = .ok (.invokevirtual 165, 3) := by decide +kernel
theorem dX7_shift_17 : decode cX7_shift 17 = .ok (.aload_n 0, 1) := by decide +kernel
theorem dX7_shift_18 : decode cX7_shift 18 = .ok (.getfield 12, 3) := by decide +kernel
theorem dX7_shift_21 : decode cX7_shift 21 = .ok (.aload_n 0, 1) := by decide +kernel
theorem dX7_shift_22 : decode cX7_shift 22 = .ok (.getfield 60, 3) := by decide +kernel
theorem dX7_shift_25 : decode cX7_shift 25 = .ok (.iload_n 1, 1) := by decide +kernel
theorem dX7_shift_26 : decode cX7_shift 26 = .ok (.invokevirtual 135, 3) := by decide +kernel
theorem dX7_shift_29 : decode cX7_shift 29 = .ok (.aload_n 0, 1) := by decide +kernel
theorem dX7_shift_30 : decode cX7_shift 30 = .ok (.getfield 12, 3) := by decide +kernel
theorem dX7_shift_33 : decode cX7_shift 33 = .ok (.aload_n 0, 1) := by decide +kernel
theorem dX7_shift_34 : decode cX7_shift 34 = .ok (.getfield 42, 3) := by decide +kernel
theorem dX7_shift_37 : decode cX7_shift 37 = .ok (.getfield 168, 3) := by decide +kernel
theorem dX7_shift_40 : decode cX7_shift 40 = .ok (.aload_n 0, 1) := by decide +kernel
theorem dX7_shift_41 : decode cX7_shift 41 = .ok (.getfield 60, 3) := by decide +kernel
theorem dX7_shift_44 : decode cX7_shift 44 = .ok (.invokevirtual 175, 3) := by decide +kernel
theorem dX7_shift_47 : decode cX7_shift 47 = .ok (.aload_n 0, 1) := by decide +kernel
theorem dX7_shift_48 : decode cX7_shift 48 = .ok (.getfield 42, 3) := by decide +kernel
theorem dX7_shift_51 : decode cX7_shift 51 = .ok (.getfield 168, 3) := by decide +kernel
theorem dX7_shift_54 : decode cX7_shift 54 = .ok (.iconst 0, 1) := by decide +kernel
theorem dX7_shift_55 : decode cX7_shift 55 = .ok (.iaload, 1) := by decide +kernel
theorem dX7_shift_56 : decode cX7_shift 56 = .ok (.ireturn, 1) := by decide +kernel
theorem dX7_times_0 : decode cX7_times 0 = .ok (.aload_n 0, 1) := by decide +kernel
theorem dX7_times_1 : decode cX7_times 1 = .ok (.getfield 42, 3) := by decide +kernel
theorem dX7_times_4 : decode cX7_times 4 = .ok (.invokevirtual 178, 3) := by decide +kernel
theorem dX7_times_7 : decode cX7_times 7 = .ok (.ifCond .eq 6, 3) := by decide +kernel
theorem dX7_times_10 : decode cX7_times 10 = .ok (.bipush (-4), 2) := by decide +kernel
theorem dX7_times_12 : decode cX7_times 12 = .ok (.ireturn, 1) := by decide +kernel
theorem dX7_times_13 : decode cX7_times 13 = .ok (.aload_n 0, 1) := by decide +kernel
theorem dX7_times_14 : decode cX7_times 14 = .ok (.getfield 42, 3) := by decide +kernel
theorem dX7_times_17 : decode cX7_times 17 = .ok (.invokevirtual 165, 3) := by decide +kernel
theorem dX7_times_20 : decode cX7_times 20 = .ok (.aload_n 0, 1) := by decide +kernel
theorem dX7_times_21 : decode cX7_times 21 = .ok (.getfield 42, 3) := by decide +kernel
theorem dX7_times_24 : decode cX7_times 24 = .ok (.getfield 168, 3) := by decide +kernel
theorem dX7_times_27 : decode cX7_times 27 = .ok (.invokestatic 185, 3) := by decide +kernel
theorem dX7_times_30 : decode cX7_times 30 = .ok (.aload_n 0, 1) := by decide +kernel
theorem dX7_times_31 : decode cX7_times 31 = .ok (.getfield 42, 3) := by decide +kernel
theorem dX7_times_34 : decode cX7_times 34 = .ok (.getfield 168, 3) := by decide +kernel
theorem dX7_times_37 : decode cX7_times 37 = .ok (.iconst 1, 1) := by decide +kernel
theorem dX7_times_38 : decode cX7_times 38 = .ok (.invokestatic 154, 3) := by decide +kernel
theorem dX7_times_41 : decode cX7_times 41 = .ok (.ireturn, 1) := by decide +kernel
theorem dX7_swap_0 : decode cX7_swap 0 = .ok (.iload_n 1, 1) := by decide +kernel
theorem dX7_swap_1 : decode cX7_swap 1 = .ok (.invokestatic 81, 3) := by decide +kernel
theorem dX7_swap_4 : decode cX7_swap 4 = .ok (.ifCond .eq 10, 3) := by decide +kernel
theorem dX7_swap_7 : decode cX7_swap 7 = .ok (.iload_n 2, 1) := by decide +kernel
theorem dX7_swap_8 : decode cX7_swap 8 = .ok (.invokestatic 81, 3) := by decide +kernel
theorem dX7_swap_11 : decode cX7_swap 11 = .ok (.ifCond .ne 6, 3) := by decide +kernel
theorem dX7_swap_14 : decode cX7_swap 14 = .ok (.bipush (-2), 2) := by decide +kernel
theorem dX7_swap_16 : decode cX7_swap 16 = .ok (.ireturn, 1) := by decide +kernel
theorem dX7_swap_17 : decode cX7_swap 17 = .ok (.aload_n 0, 1) := by decide +kernel
theorem dX7_swap_18 : decode cX7_swap 18 = .ok (.getfield 42, 3) := by decide +kernel
theorem dX7_swap_21 : decode cX7_swap 21 = .ok (.invokevirtual 165, 3) := by decide +kernel
theorem dX7_swap_24 : decode cX7_swap 24 = .ok (.aload_n 0, 1) := by decide +kernel
theorem dX7_swap_25 : decode cX7_swap 25 = .ok (.getfield 34, 3) := by decide +kernel
theorem dX7_swap_28 : decode cX7_swap 28 = .ok (.iload_n 1, 1) := by decide +kernel
theorem dX7_swap_29 : decode cX7_swap 29 = .ok (.aaload, 1) := by decide +kernel
theorem dX7_swap_30 : decode cX7_swap 30 = .ok (.aload_n 0, 1) := by decide +kernel
theorem dX7_swap_31 : decode cX7_swap 31 = .ok (.getfield 63, 3) := by decide +kernel
theorem dX7_swap_34 : decode cX7_swap 34 = .ok (.aload_n 0, 1) := by decide +kernel
theorem dX7_swap_35 : decode cX7_swap 35 = .ok (.getfield 42, 3) := by decide +kernel
theorem dX7_swap_38 : decode cX7_swap 38 = .ok (.getfield 168, 3) := by decide +kernel
theorem dX7_swap_41 : decode cX7_swap 41 = .ok (.invokevirtual 158, 3) := by decide +kernel
theorem dX7_swap_44 : decode cX7_swap 44 = .ok (.aload_n 0, 1) := by decide +kernel
theorem dX7_swap_45 : decode cX7_swap 45 = .ok (.getfield 34, 3) := by decide +kernel
theorem dX7_swap_48 : decode cX7_swap 48 = .ok (.iload_n 2, 1) := by decide +kernel
theorem dX7_swap_49 : decode cX7_swap 49 = .ok (.aaload, 1) := by decide +kernel
theorem dX7_swap_50 : decode cX7_swap 50 = .ok (.aload_n 0, 1) := by decide +kernel
theorem dX7_swap_51 : decode cX7_swap 51 = .ok (.getfield 42, 3) := by decide +kernel
theorem dX7_swap_54 : decode cX7_swap 54 = .ok (.getfield 168, 3) := by decide +kernel
theorem dX7_swap_57 : decode cX7_swap 57 = .ok (.aload_n 0, 1) := by decide +kernel
theorem dX7_swap_58 : decode cX7_swap 58 = .ok (.getfield 63, 3) := by decide +kernel
theorem dX7_swap_61 : decode cX7_swap 61 = .ok (.invokevirtual 189, 3) := by decide +kernel
theorem dX7_swap_64 : decode cX7_swap 64 = .ok (.aload_n 0, 1) := by decide +kernel
theorem dX7_swap_65 : decode cX7_swap 65 = .ok (.getfield 42, 3) := by decide +kernel
theorem dX7_swap_68 : decode cX7_swap 68 = .ok (.getfield 168, 3) := by decide +kernel
theorem dX7_swap_71 : decode cX7_swap 71 = .ok (.iconst 0, 1) := by decide +kernel
theorem dX7_swap_72 : decode cX7_swap 72 = .ok (.iaload, 1) := by decide +kernel
theorem dX7_swap_73 : decode cX7_swap 73 = .ok (.ireturn, 1) := by decide +kernel
theorem dX7_climb_0 : decode cX7_climb 0 = .ok (.iload_n 1, 1) := by decide +kernel
theorem dX7_climb_1 : decode cX7_climb 1 = .ok (.invokestatic 81, 3) := by decide +kernel
theorem dX7_climb_4 : decode cX7_climb 4 = .ok (.ifCond .ne 6, 3) := by decide +kernel
theorem dX7_climb_7 : decode cX7_climb 7 = .ok (.bipush (-2), 2) := by decide +kernel
theorem dX7_climb_9 : decode cX7_climb 9 = .ok (.ireturn, 1) := by decide +kernel
theorem dX7_climb_10 : decode cX7_climb 10 = .ok (.aload_n 0, 1) := by decide +kernel
theorem dX7_climb_11 : decode cX7_climb 11 = .ok (.getfield 42, 3) := by decide +kernel
theorem dX7_climb_14 : decode cX7_climb 14 = .ok (.invokevirtual 178, 3) := by decide +kernel
theorem dX7_climb_17 : decode cX7_climb 17 = .ok (.ifCond .eq 6, 3) := by decide +kernel
theorem dX7_climb_20 : decode cX7_climb 20 = .ok (.bipush (-4), 2) := by decide +kernel
theorem dX7_climb_22 : decode cX7_climb 22 = .ok (.ireturn, 1) := by decide +kernel
theorem dX7_climb_23 : decode cX7_climb 23 = .ok (.aload_n 0, 1) := by decide +kernel
theorem dX7_climb_24 : decode cX7_climb 24 = .ok (.getfield 42, 3) := by decide +kernel
theorem dX7_climb_27 : decode cX7_climb 27 = .ok (.invokevirtual 165, 3) := by decide +kernel
theorem dX7_climb_30 : decode cX7_climb 30 = .ok (.aload_n 0, 1) := by decide +kernel
theorem dX7_climb_31 : decode cX7_climb 31 = .ok (.getfield 34, 3) := by decide +kernel
theorem dX7_climb_34 : decode cX7_climb 34 = .ok (.iload_n 1, 1) := by decide +kernel
theorem dX7_climb_35 : decode cX7_climb 35 = .ok (.aaload, 1) := by decide +kernel
theorem dX7_climb_36 : decode cX7_climb 36 = .ok (.aload_n 0, 1) := by decide +kernel
theorem dX7_climb_37 : decode cX7_climb 37 = .ok (.getfield 63, 3) := by decide +kernel
theorem dX7_climb_40 : decode cX7_climb 40 = .ok (.aload_n 0, 1) := by decide +kernel
theorem dX7_climb_41 : decode cX7_climb 41 = .ok (.getfield 42, 3) := by decide +kernel
theorem dX7_climb_44 : decode cX7_climb 44 = .ok (.getfield 168, 3) := by decide +kernel
theorem dX7_climb_47 : decode cX7_climb 47 = .ok (.invokevirtual 158, 3) := by decide +kernel
theorem dX7_climb_50 : decode cX7_climb 50 = .ok (.aload_n 0, 1) := by decide +kernel
theorem dX7_climb_51 : decode cX7_climb 51 = .ok (.getfield 63, 3) := by decide +kernel
theorem dX7_climb_54 : decode cX7_climb 54 = .ok (.invokestatic 185, 3) := by decide +kernel
theorem dX7_climb_57 : decode cX7_climb 57 = .ok (.aload_n 0, 1) := by decide +kernel
theorem dX7_climb_58 : decode cX7_climb 58 = .ok (.getfield 34, 3) := by decide +kernel
theorem dX7_climb_61 : decode cX7_climb 61 = .ok (.iload_n 1, 1) := by decide +kernel
theorem dX7_climb_62 : decode cX7_climb 62 = .ok (.aaload, 1) := by decide +kernel
theorem dX7_climb_63 : decode cX7_climb 63 = .ok (.aload_n 0, 1) := by decide +kernel
theorem dX7_climb_64 : decode cX7_climb 64 = .ok (.getfield 42, 3) := by decide +kernel
theorem dX7_climb_67 : decode cX7_climb 67 = .ok (.getfield 168, 3) := by decide +kernel
theorem dX7_climb_70 : decode cX7_climb 70 = .ok (.aload_n 0, 1) := by decide +kernel
theorem dX7_climb_71 : decode cX7_climb 71 = .ok (.getfield 63, 3) := by decide +kernel
theorem dX7_climb_74 : decode cX7_climb 74 = .ok (.invokevirtual 189, 3) := by decide +kernel
theorem dX7_climb_77 : decode cX7_climb 77 = .ok (.aload_n 0, 1) := by decide +kernel
theorem dX7_climb_78 : decode cX7_climb 78 = .ok (.getfield 42, 3) := by decide +kernel
theorem dX7_climb_81 : decode cX7_climb 81 = .ok (.getfield 168, 3) := by decide +kernel
theorem dX7_climb_84 : decode cX7_climb 84 = .ok (.iconst 0, 1) := by decide +kernel
theorem dX7_climb_85 : decode cX7_climb 85 = .ok (.iaload, 1) := by decide +kernel
theorem dX7_climb_86 : decode cX7_climb 86 = .ok (.ireturn, 1) := by decide +kernel
theorem dX7_weigh_0 : decode cX7_weigh 0 = .ok (.iload_n 1, 1) := by decide +kernel
theorem dX7_weigh_1 : decode cX7_weigh 1 = .ok (.invokestatic 81, 3) := by decide +kernel
theorem dX7_weigh_4 : decode cX7_weigh 4 = .ok (.ifCond .ne 6, 3) := by decide +kernel
theorem dX7_weigh_7 : decode cX7_weigh 7 = .ok (.bipush (-2), 2) := by decide +kernel
theorem dX7_weigh_9 : decode cX7_weigh 9 = .ok (.ireturn, 1) := by decide +kernel
theorem dX7_weigh_10 : decode cX7_weigh 10 = .ok (.aload_n 0, 1) := by decide +kernel
theorem dX7_weigh_11 : decode cX7_weigh 11 = .ok (.getfield 42, 3) := by decide +kernel
theorem dX7_weigh_14 : decode cX7_weigh 14 = .ok (.invokevirtual 165, 3) := by decide +kernel
theorem dX7_weigh_17 : decode cX7_weigh 17 = .ok (.aload_n 0, 1) := by decide +kernel
theorem dX7_weigh_18 : decode cX7_weigh 18 = .ok (.getfield 34, 3) := by decide +kernel
theorem dX7_weigh_21 : decode cX7_weigh 21 = .ok (.iload_n 1, 1) := by decide +kernel
theorem dX7_weigh_22 : decode cX7_weigh 22 = .ok (.aaload, 1) := by decide +kernel
theorem dX7_weigh_23 : decode cX7_weigh 23 = .ok (.aload_n 0, 1) := by decide +kernel
theorem dX7_weigh_24 : decode cX7_weigh 24 = .ok (.getfield 63, 3) := by decide +kernel
theorem dX7_weigh_27 : decode cX7_weigh 27 = .ok (.aload_n 0, 1) := by decide +kernel
theorem dX7_weigh_28 : decode cX7_weigh 28 = .ok (.getfield 42, 3) := by decide +kernel
theorem dX7_weigh_31 : decode cX7_weigh 31 = .ok (.getfield 168, 3) := by decide +kernel
theorem dX7_weigh_34 : decode cX7_weigh 34 = .ok (.invokevirtual 158, 3) := by decide +kernel
theorem dX7_weigh_37 : decode cX7_weigh 37 = .ok (.iconst 0, 1) := by decide +kernel
theorem dX7_weigh_38 : decode cX7_weigh 38 = .ok (.istore_n 2, 1) := by decide +kernel
theorem dX7_weigh_39 : decode cX7_weigh 39 = .ok (.iload_n 2, 1) := by decide +kernel
theorem dX7_weigh_40 : decode cX7_weigh 40 = .ok (.bipush 9, 2) := by decide +kernel
theorem dX7_weigh_42 : decode cX7_weigh 42 = .ok (.if_icmp .ge 25, 3) := by decide +kernel
theorem dX7_weigh_45 : decode cX7_weigh 45 = .ok (.aload_n 0, 1) := by decide +kernel
theorem dX7_weigh_46 : decode cX7_weigh 46 = .ok (.getfield 63, 3) := by decide +kernel
theorem dX7_weigh_49 : decode cX7_weigh 49 = .ok (.iload_n 2, 1) := by decide +kernel
theorem dX7_weigh_50 : decode cX7_weigh 50 = .ok (.aload_n 0, 1) := by decide +kernel
theorem dX7_weigh_51 : decode cX7_weigh 51 = .ok (.getfield 63, 3) := by decide +kernel
theorem dX7_weigh_54 : decode cX7_weigh 54 = .ok (.iload_n 2, 1) := by decide +kernel
theorem dX7_weigh_55 : decode cX7_weigh 55 = .ok (.iaload, 1) := by decide +kernel
theorem dX7_weigh_56 : decode cX7_weigh 56 = .ok (.iload_n 2, 1) := by decide +kernel
theorem dX7_weigh_57 : decode cX7_weigh 57 = .ok (.invokestatic 192, 3) := by decide +kernel
theorem dX7_weigh_60 : decode cX7_weigh 60 = .ok (.iastore, 1) := by decide +kernel
theorem dX7_weigh_61 : decode cX7_weigh 61 = .ok (.iinc 2 1, 3) := by decide +kernel
theorem dX7_weigh_64 : decode cX7_weigh 64 = .ok (.goto (-25), 3) := by decide +kernel
theorem dX7_weigh_67 : decode cX7_weigh 67 = .ok (.aload_n 0, 1) := by decide +kernel
theorem dX7_weigh_68 : decode cX7_weigh 68 = .ok (.getfield 34, 3) := by decide +kernel
theorem dX7_weigh_71 : decode cX7_weigh 71 = .ok (.iload_n 1, 1) := by decide +kernel
theorem dX7_weigh_72 : decode cX7_weigh 72 = .ok (.aaload, 1) := by decide +kernel
theorem dX7_weigh_73 : decode cX7_weigh 73 = .ok (.aload_n 0, 1) := by decide +kernel
theorem dX7_weigh_74 : decode cX7_weigh 74 = .ok (.getfield 42, 3) := by decide +kernel
theorem dX7_weigh_77 : decode cX7_weigh 77 = .ok (.getfield 168, 3) := by decide +kernel
theorem dX7_weigh_80 : decode cX7_weigh 80 = .ok (.aload_n 0, 1) := by decide +kernel
theorem dX7_weigh_81 : decode cX7_weigh 81 = .ok (.getfield 63, 3) := by decide +kernel
theorem dX7_weigh_84 : decode cX7_weigh 84 = .ok (.invokevirtual 189, 3) := by decide +kernel
theorem dX7_weigh_87 : decode cX7_weigh 87 = .ok (.aload_n 0, 1) := by decide +kernel
theorem dX7_weigh_88 : decode cX7_weigh 88 = .ok (.getfield 42, 3) := by decide +kernel
theorem dX7_weigh_91 : decode cX7_weigh 91 = .ok (.getfield 168, 3) := by decide +kernel
theorem dX7_weigh_94 : decode cX7_weigh 94 = .ok (.iconst 0, 1) := by decide +kernel
theorem dX7_weigh_95 : decode cX7_weigh 95 = .ok (.iaload, 1) := by decide +kernel
theorem dX7_weigh_96 : decode cX7_weigh 96 = .ok (.ireturn, 1) := by decide +kernel
theorem dX7_undo_0 : decode cX7_undo 0 = .ok (.aload_n 0, 1) := by decide +kernel
theorem dX7_undo_1 : decode cX7_undo 1 = .ok (.getfield 42, 3) := by decide +kernel
theorem dX7_undo_4 : decode cX7_undo 4 = .ok (.invokevirtual 194, 3) := by decide +kernel
theorem dX7_undo_7 : decode cX7_undo 7 = .ok (.ifCond .eq 13, 3) := by decide +kernel
theorem dX7_undo_10 : decode cX7_undo 10 = .ok (.aload_n 0, 1) := by decide +kernel
theorem dX7_undo_11 : decode cX7_undo 11 = .ok (.getfield 42, 3) := by decide +kernel
theorem dX7_undo_14 : decode cX7_undo 14 = .ok (.getfield 197, 3) := by decide +kernel
theorem dX7_undo_17 : decode cX7_undo 17 = .ok (.goto 5, 3) := by decide +kernel
theorem dX7_undo_20 : decode cX7_undo 20 = .ok (.bipush (-4), 2) := by decide +kernel
theorem dX7_undo_22 : decode cX7_undo 22 = .ok (.ireturn, 1) := by decide +kernel
theorem dX7_hand_0 : decode cX7_hand 0 = .ok (.iload_n 1, 1) := by decide +kernel
theorem dX7_hand_1 : decode cX7_hand 1 = .ok (.invokestatic 143, 3) := by decide +kernel
theorem dX7_hand_4 : decode cX7_hand 4 = .ok (.ifCond .eq 15, 3) := by decide +kernel
theorem dX7_hand_7 : decode cX7_hand 7 = .ok (.aload_n 0, 1) := by decide +kernel
theorem dX7_hand_8 : decode cX7_hand 8 = .ok (.getfield 42, 3) := by decide +kernel
theorem dX7_hand_11 : decode cX7_hand 11 = .ok (.getfield 168, 3) := by decide +kernel
theorem dX7_hand_14 : decode cX7_hand 14 = .ok (.iload_n 1, 1) := by decide +kernel
theorem dX7_hand_15 : decode cX7_hand 15 = .ok (.iaload, 1) := by decide +kernel
theorem dX7_hand_16 : decode cX7_hand 16 = .ok (.goto 5, 3) := by decide +kernel
theorem dX7_hand_19 : decode cX7_hand 19 = .ok (.bipush (-3), 2) := by decide +kernel
theorem dX7_hand_21 : decode cX7_hand 21 = .ok (.ireturn, 1) := by decide +kernel
theorem dX7_at_0 : decode cX7_at 0 = .ok (.iload_n 1, 1) := by decide +kernel
theorem dX7_at_1 : decode cX7_at 1 = .ok (.invokestatic 126, 3) := by decide +kernel
theorem dX7_at_4 : decode cX7_at 4 = .ok (.ifCond .eq 17, 3) := by decide +kernel
theorem dX7_at_7 : decode cX7_at 7 = .ok (.aload_n 0, 1) := by decide +kernel
theorem dX7_at_8 : decode cX7_at 8 = .ok (.getfield 42, 3) := by decide +kernel
theorem dX7_at_11 : decode cX7_at 11 = .ok (.getfield 168, 3) := by decide +kernel
theorem dX7_at_14 : decode cX7_at 14 = .ok (.iload_n 1, 1) := by decide +kernel
theorem dX7_at_15 : decode cX7_at 15 = .ok (.invokestatic 154, 3) := by decide +kernel
theorem dX7_at_18 : decode cX7_at 18 = .ok (.goto 5, 3) := by decide +kernel
theorem dX7_at_21 : decode cX7_at 21 = .ok (.bipush (-3), 2) := by decide +kernel
theorem dX7_at_23 : decode cX7_at 23 = .ok (.ireturn, 1) := by decide +kernel
theorem dX7_expand_0 : decode cX7_expand 0 = .ok (.iload_n 1, 1) := by decide +kernel
theorem dX7_expand_1 : decode cX7_expand 1 = .ok (.invokestatic 81, 3) := by decide +kernel
theorem dX7_expand_4 : decode cX7_expand 4 = .ok (.ifCond .ne 6, 3) := by decide +kernel
theorem dX7_expand_7 : decode cX7_expand 7 = .ok (.bipush (-2), 2) := by decide +kernel
theorem dX7_expand_9 : decode cX7_expand 9 = .ok (.ireturn, 1) := by decide +kernel
theorem dX7_expand_10 : decode cX7_expand 10 = .ok (.iload_n 2, 1) := by decide +kernel
theorem dX7_expand_11 : decode cX7_expand 11 = .ok (.invokestatic 143, 3) := by decide +kernel
theorem dX7_expand_14 : decode cX7_expand 14 = .ok (.ifCond .ne 6, 3) := by decide +kernel
theorem dX7_expand_17 : decode cX7_expand 17 = .ok (.bipush (-3), 2) := by decide +kernel
theorem dX7_expand_19 : decode cX7_expand 19 = .ok (.ireturn, 1) := by decide +kernel
theorem dX7_expand_20 : decode cX7_expand 20 = .ok (.aload_n 0, 1) := by decide +kernel
theorem dX7_expand_21 : decode cX7_expand 21 = .ok (.getfield 34, 3) := by decide +kernel
theorem dX7_expand_24 : decode cX7_expand 24 = .ok (.iload_n 1, 1) := by decide +kernel
theorem dX7_expand_25 : decode cX7_expand 25 = .ok (.aaload, 1) := by decide +kernel
theorem dX7_expand_26 : decode cX7_expand 26 = .ok (.aload_n 0, 1) := by decide +kernel
theorem dX7_expand_27 : decode cX7_expand 27 = .ok (.getfield 63, 3) := by decide +kernel
theorem dX7_expand_30 : decode cX7_expand 30 = .ok (.aload_n 0, 1) := by decide +kernel
theorem dX7_expand_31 : decode cX7_expand 31 = .ok (.getfield 42, 3) := by decide +kernel
theorem dX7_expand_34 : decode cX7_expand 34 = .ok (.getfield 168, 3) := by decide +kernel
theorem dX7_expand_37 : decode cX7_expand 37 = .ok (.invokevirtual 158, 3) := by decide +kernel
theorem dX7_expand_40 : decode cX7_expand 40 = .ok (.aload_n 0, 1) := by decide +kernel
theorem dX7_expand_41 : decode cX7_expand 41 = .ok (.getfield 63, 3) := by decide +kernel
theorem dX7_expand_44 : decode cX7_expand 44 = .ok (.iload_n 2, 1) := by decide +kernel
theorem dX7_expand_45 : decode cX7_expand 45 = .ok (.iaload, 1) := by decide +kernel
theorem dX7_expand_46 : decode cX7_expand 46 = .ok (.ireturn, 1) := by decide +kernel
theorem dX7_sum_0 : decode cX7_sum 0 = .ok (.iload_n 1, 1) := by decide +kernel
theorem dX7_sum_1 : decode cX7_sum 1 = .ok (.ifCond .lt 10, 3) := by decide +kernel
theorem dX7_sum_4 : decode cX7_sum 4 = .ok (.iload_n 1, 1) := by decide +kernel
theorem dX7_sum_5 : decode cX7_sum 5 = .ok (.sipush 500, 3) := by decide +kernel
theorem dX7_sum_8 : decode cX7_sum 8 = .ok (.if_icmp .le 6, 3) := by decide +kernel
theorem dX7_sum_11 : decode cX7_sum 11 = .ok (.bipush (-3), 2) := by decide +kernel
theorem dX7_sum_13 : decode cX7_sum 13 = .ok (.ireturn, 1) := by decide +kernel
theorem dX7_sum_14 : decode cX7_sum 14 = .ok (.iconst 0, 1) := by decide +kernel
theorem dX7_sum_15 : decode cX7_sum 15 = .ok (.istore_n 2, 1) := by decide +kernel
theorem dX7_sum_16 : decode cX7_sum 16 = .ok (.iconst 0, 1) := by decide +kernel
theorem dX7_sum_17 : decode cX7_sum 17 = .ok (.istore_n 3, 1) := by decide +kernel
theorem dX7_sum_18 : decode cX7_sum 18 = .ok (.iload_n 3, 1) := by decide +kernel
theorem dX7_sum_19 : decode cX7_sum 19 = .ok (.iload_n 1, 1) := by decide +kernel
theorem dX7_sum_20 : decode cX7_sum 20 = .ok (.if_icmp .ge 25, 3) := by decide +kernel
theorem dX7_sum_23 : decode cX7_sum 23 = .ok (.iload_n 2, 1) := by decide +kernel
theorem dX7_sum_24 : decode cX7_sum 24 = .ok (.aload_n 0, 1) := by decide +kernel
theorem dX7_sum_25 : decode cX7_sum 25 = .ok (.getfield 42, 3) := by decide +kernel
theorem dX7_sum_28 : decode cX7_sum 28 = .ok (.getfield 168, 3) := by decide +kernel
theorem dX7_sum_31 : decode cX7_sum 31 = .ok (.iload_n 3, 1) := by decide +kernel
theorem dX7_sum_32 : decode cX7_sum 32 = .ok (.invokestatic 154, 3) := by decide +kernel
theorem dX7_sum_35 : decode cX7_sum 35 = .ok (.invokestatic 200, 3) := by decide +kernel
theorem dX7_sum_38 : decode cX7_sum 38 = .ok (.istore_n 2, 1) := by decide +kernel
theorem dX7_sum_39 : decode cX7_sum 39 = .ok (.iinc 3 1, 3) := by decide +kernel
theorem dX7_sum_42 : decode cX7_sum 42 = .ok (.goto (-24), 3) := by decide +kernel
theorem dX7_sum_45 : decode cX7_sum 45 = .ok (.iload_n 2, 1) := by decide +kernel
theorem dX7_sum_46 : decode cX7_sum 46 = .ok (.ireturn, 1) := by decide +kernel
theorem dX7_keep_0 : decode cX7_keep 0 = .ok (.iload_n 1, 1) := by decide +kernel
theorem dX7_keep_1 : decode cX7_keep 1 = .ok (.invokestatic 203, 3) := by decide +kernel
theorem dX7_keep_4 : decode cX7_keep 4 = .ok (.ifCond .ne 6, 3) := by decide +kernel
theorem dX7_keep_7 : decode cX7_keep 7 = .ok (.bipush (-3), 2) := by decide +kernel
theorem dX7_keep_9 : decode cX7_keep 9 = .ok (.ireturn, 1) := by decide +kernel
theorem dX7_keep_10 : decode cX7_keep 10 = .ok (.iconst 0, 1) := by decide +kernel
theorem dX7_keep_11 : decode cX7_keep 11 = .ok (.istore_n 2, 1) := by decide +kernel
theorem dX7_keep_12 : decode cX7_keep 12 = .ok (.iload_n 2, 1) := by decide +kernel
theorem dX7_keep_13 : decode cX7_keep 13 = .ok (.iconst 4, 1) := by decide +kernel
theorem dX7_keep_14 : decode cX7_keep 14 = .ok (.if_icmp .ge 55, 3) := by decide +kernel
theorem dX7_keep_17 : decode cX7_keep 17 = .ok (.aload_n 0, 1) := by decide +kernel
theorem dX7_keep_18 : decode cX7_keep 18 = .ok (.getfield 34, 3) := by decide +kernel
theorem dX7_keep_21 : decode cX7_keep 21 = .ok (.iload_n 2, 1) := by decide +kernel
theorem dX7_keep_22 : decode cX7_keep 22 = .ok (.aaload, 1) := by decide +kernel
theorem dX7_keep_23 : decode cX7_keep 23 = .ok (.getfield 99, 3) := by decide +kernel
theorem dX7_keep_26 : decode cX7_keep 26 = .ok (.aload_n 0, 1) := by decide +kernel
theorem dX7_keep_27 : decode cX7_keep 27 = .ok (.getfield 48, 3) := by decide +kernel
theorem dX7_keep_30 : decode cX7_keep 30 = .ok (.iload_n 1, 1) := by decide +kernel
theorem dX7_keep_31 : decode cX7_keep 31 = .ok (.aaload, 1) := by decide +kernel
theorem dX7_keep_32 : decode cX7_keep 32 = .ok (.getfield 206, 3) := by decide +kernel
theorem dX7_keep_35 : decode cX7_keep 35 = .ok (.iload_n 2, 1) := by decide +kernel
theorem dX7_keep_36 : decode cX7_keep 36 = .ok (.aaload, 1) := by decide +kernel
theorem dX7_keep_37 : decode cX7_keep 37 = .ok (.invokestatic 119, 3) := by decide +kernel
theorem dX7_keep_40 : decode cX7_keep 40 = .ok (.aload_n 0, 1) := by decide +kernel
theorem dX7_keep_41 : decode cX7_keep 41 = .ok (.getfield 34, 3) := by decide +kernel
theorem dX7_keep_44 : decode cX7_keep 44 = .ok (.iload_n 2, 1) := by decide +kernel
theorem dX7_keep_45 : decode cX7_keep 45 = .ok (.aaload, 1) := by decide +kernel
theorem dX7_keep_46 : decode cX7_keep 46 = .ok (.getfield 102, 3) := by decide +kernel
theorem dX7_keep_49 : decode cX7_keep 49 = .ok (.aload_n 0, 1) := by decide +kernel
theorem dX7_keep_50 : decode cX7_keep 50 = .ok (.getfield 48, 3) := by decide +kernel
theorem dX7_keep_53 : decode cX7_keep 53 = .ok (.iload_n 1, 1) := by decide +kernel
theorem dX7_keep_54 : decode cX7_keep 54 = .ok (.aaload, 1) := by decide +kernel
theorem dX7_keep_55 : decode cX7_keep 55 = .ok (.getfield 208, 3) := by decide +kernel
theorem dX7_keep_58 : decode cX7_keep 58 = .ok (.iload_n 2, 1) := by decide +kernel
theorem dX7_keep_59 : decode cX7_keep 59 = .ok (.aaload, 1) := by decide +kernel
theorem dX7_keep_60 : decode cX7_keep 60 = .ok (.invokestatic 119, 3) := by decide +kernel
theorem dX7_keep_63 : decode cX7_keep 63 = .ok (.iinc 2 1, 3) := by decide +kernel
theorem dX7_keep_66 : decode cX7_keep 66 = .ok (.goto (-54), 3) := by decide +kernel
theorem dX7_keep_69 : decode cX7_keep 69 = .ok (.aload_n 0, 1) := by decide +kernel
theorem dX7_keep_70 : decode cX7_keep 70 = .ok (.getfield 42, 3) := by decide +kernel
theorem dX7_keep_73 : decode cX7_keep 73 = .ok (.getfield 168, 3) := by decide +kernel
theorem dX7_keep_76 : decode cX7_keep 76 = .ok (.aload_n 0, 1) := by decide +kernel
theorem dX7_keep_77 : decode cX7_keep 77 = .ok (.getfield 48, 3) := by decide +kernel
theorem dX7_keep_80 : decode cX7_keep 80 = .ok (.iload_n 1, 1) := by decide +kernel
theorem dX7_keep_81 : decode cX7_keep 81 = .ok (.aaload, 1) := by decide +kernel
theorem dX7_keep_82 : decode cX7_keep 82 = .ok (.getfield 210, 3) := by decide +kernel
theorem dX7_keep_85 : decode cX7_keep 85 = .ok (.invokestatic 119, 3) := by decide +kernel
theorem dX7_keep_88 : decode cX7_keep 88 = .ok (.aload_n 0, 1) := by decide +kernel
theorem dX7_keep_89 : decode cX7_keep 89 = .ok (.getfield 48, 3) := by decide +kernel
theorem dX7_keep_92 : decode cX7_keep 92 = .ok (.iload_n 1, 1) := by decide +kernel
theorem dX7_keep_93 : decode cX7_keep 93 = .ok (.aaload, 1) := by decide +kernel
theorem dX7_keep_94 : decode cX7_keep 94 = .ok (.iconst 1, 1) := by decide +kernel
theorem dX7_keep_95 : decode cX7_keep 95 = .ok (.putfield 211, 3) := by decide +kernel
theorem dX7_keep_98 : decode cX7_keep 98 = .ok (.aload_n 0, 1) := by decide +kernel
theorem dX7_keep_99 : decode cX7_keep 99 = .ok (.getfield 42, 3) := by decide +kernel
theorem dX7_keep_102 : decode cX7_keep 102 = .ok (.invokevirtual 215, 3) := by decide +kernel
theorem dX7_keep_105 : decode cX7_keep 105 = .ok (.ireturn, 1) := by decide +kernel
theorem dX7_back_0 : decode cX7_back 0 = .ok (.iload_n 1, 1) := by decide +kernel
theorem dX7_back_1 : decode cX7_back 1 = .ok (.invokestatic 203, 3) := by decide +kernel
theorem dX7_back_4 : decode cX7_back 4 = .ok (.ifCond .ne 6, 3) := by decide +kernel
theorem dX7_back_7 : decode cX7_back 7 = .ok (.bipush (-3), 2) := by decide +kernel
theorem dX7_back_9 : decode cX7_back 9 = .ok (.ireturn, 1) := by decide +kernel
theorem dX7_back_10 : decode cX7_back 10 = .ok (.aload_n 0, 1) := by decide +kernel
theorem dX7_back_11 : decode cX7_back 11 = .ok (.getfield 48, 3) := by decide +kernel
theorem dX7_back_14 : decode cX7_back 14 = .ok (.iload_n 1, 1) := by decide +kernel
theorem dX7_back_15 : decode cX7_back 15 = .ok (.aaload, 1) := by decide +kernel
theorem dX7_back_16 : decode cX7_back 16 = .ok (.getfield 211, 3) := by decide +kernel
theorem dX7_back_19 : decode cX7_back 19 = .ok (.ifCond .ne 6, 3) := by decide +kernel
theorem dX7_back_22 : decode cX7_back 22 = .ok (.bipush (-4), 2) := by decide +kernel
theorem dX7_back_24 : decode cX7_back 24 = .ok (.ireturn, 1) := by decide +kernel
theorem dX7_back_25 : decode cX7_back 25 = .ok (.iconst 0, 1) := by decide +kernel
theorem dX7_back_26 : decode cX7_back 26 = .ok (.istore_n 2, 1) := by decide +kernel
theorem dX7_back_27 : decode cX7_back 27 = .ok (.iload_n 2, 1) := by decide +kernel
theorem dX7_back_28 : decode cX7_back 28 = .ok (.iconst 4, 1) := by decide +kernel
theorem dX7_back_29 : decode cX7_back 29 = .ok (.if_icmp .ge 41, 3) := by decide +kernel
theorem dX7_back_32 : decode cX7_back 32 = .ok (.aload_n 0, 1) := by decide +kernel
theorem dX7_back_33 : decode cX7_back 33 = .ok (.getfield 34, 3) := by decide +kernel
theorem dX7_back_36 : decode cX7_back 36 = .ok (.iload_n 2, 1) := by decide +kernel
theorem dX7_back_37 : decode cX7_back 37 = .ok (.aaload, 1) := by decide +kernel
theorem dX7_back_38 : decode cX7_back 38 = .ok (.aload_n 0, 1) := by decide +kernel
theorem dX7_back_39 : decode cX7_back 39 = .ok (.getfield 48, 3) := by decide +kernel
theorem dX7_back_42 : decode cX7_back 42 = .ok (.iload_n 1, 1) := by decide +kernel
theorem dX7_back_43 : decode cX7_back 43 = .ok (.aaload, 1) := by decide +kernel
theorem dX7_back_44 : decode cX7_back 44 = .ok (.getfield 206, 3) := by decide +kernel
theorem dX7_back_47 : decode cX7_back 47 = .ok (.iload_n 2, 1) := by decide +kernel
theorem dX7_back_48 : decode cX7_back 48 = .ok (.aaload, 1) := by decide +kernel
theorem dX7_back_49 : decode cX7_back 49 = .ok (.aload_n 0, 1) := by decide +kernel
theorem dX7_back_50 : decode cX7_back 50 = .ok (.getfield 48, 3) := by decide +kernel
theorem dX7_back_53 : decode cX7_back 53 = .ok (.iload_n 1, 1) := by decide +kernel
theorem dX7_back_54 : decode cX7_back 54 = .ok (.aaload, 1) := by decide +kernel
theorem dX7_back_55 : decode cX7_back 55 = .ok (.getfield 208, 3) := by decide +kernel
theorem dX7_back_58 : decode cX7_back 58 = .ok (.iload_n 2, 1) := by decide +kernel
theorem dX7_back_59 : decode cX7_back 59 = .ok (.aaload, 1) := by decide +kernel
theorem dX7_back_60 : decode cX7_back 60 = .ok (.invokevirtual 95, 3) := by decide +kernel
theorem dX7_back_63 : decode cX7_back 63 = .ok (.pop, 1) := by decide +kernel
theorem dX7_back_64 : decode cX7_back 64 = .ok (.iinc 2 1, 3) := by decide +kernel
theorem dX7_back_67 : decode cX7_back 67 = .ok (.goto (-40), 3) := by decide +kernel
theorem dX7_back_70 : decode cX7_back 70 = .ok (.aload_n 0, 1) := by decide +kernel
theorem dX7_back_71 : decode cX7_back 71 = .ok (.getfield 48, 3) := by decide +kernel
theorem dX7_back_74 : decode cX7_back 74 = .ok (.iload_n 1, 1) := by decide +kernel
theorem dX7_back_75 : decode cX7_back 75 = .ok (.aaload, 1) := by decide +kernel
theorem dX7_back_76 : decode cX7_back 76 = .ok (.getfield 210, 3) := by decide +kernel
theorem dX7_back_79 : decode cX7_back 79 = .ok (.aload_n 0, 1) := by decide +kernel
theorem dX7_back_80 : decode cX7_back 80 = .ok (.getfield 42, 3) := by decide +kernel
theorem dX7_back_83 : decode cX7_back 83 = .ok (.getfield 168, 3) := by decide +kernel
theorem dX7_back_86 : decode cX7_back 86 = .ok (.invokestatic 119, 3) := by decide +kernel
theorem dX7_back_89 : decode cX7_back 89 = .ok (.aload_n 0, 1) := by decide +kernel
theorem dX7_back_90 : decode cX7_back 90 = .ok (.getfield 42, 3) := by decide +kernel
theorem dX7_back_93 : decode cX7_back 93 = .ok (.invokevirtual 218, 3) := by decide +kernel
theorem dX7_back_96 : decode cX7_back 96 = .ok (.aload_n 0, 1) := by decide +kernel
theorem dX7_back_97 : decode cX7_back 97 = .ok (.getfield 42, 3) := by decide +kernel
theorem dX7_back_100 : decode cX7_back 100 = .ok (.invokevirtual 215, 3) := by decide +kernel
theorem dX7_back_103 : decode cX7_back 103 = .ok (.ireturn, 1) := by decide +kernel
theorem dX7_count_0 : decode cX7_count 0 = .ok (.iload_n 1, 1) := by decide +kernel
theorem dX7_count_1 : decode cX7_count 1 = .ok (.tableswitch 51 0 2 #[27, 35, 43], 27) := by decide +kernel
theorem dX7_count_28 : decode cX7_count 28 = .ok (.aload_n 0, 1) := by decide +kernel
theorem dX7_count_29 : decode cX7_count 29 = .ok (.getfield 42, 3) := by decide +kernel
theorem dX7_count_32 : decode cX7_count 32 = .ok (.invokevirtual 221, 3) := by decide +kernel
theorem dX7_count_35 : decode cX7_count 35 = .ok (.ireturn, 1) := by decide +kernel
theorem dX7_count_36 : decode cX7_count 36 = .ok (.aload_n 0, 1) := by decide +kernel
theorem dX7_count_37 : decode cX7_count 37 = .ok (.getfield 42, 3) := by decide +kernel
theorem dX7_count_40 : decode cX7_count 40 = .ok (.getfield 197, 3) := by decide +kernel
theorem dX7_count_43 : decode cX7_count 43 = .ok (.ireturn, 1) := by decide +kernel
theorem dX7_count_44 : decode cX7_count 44 = .ok (.aload_n 0, 1) := by decide +kernel
theorem dX7_count_45 : decode cX7_count 45 = .ok (.getfield 19, 3) := by decide +kernel
theorem dX7_count_48 : decode cX7_count 48 = .ok (.getfield 70, 3) := by decide +kernel
theorem dX7_count_51 : decode cX7_count 51 = .ok (.ireturn, 1) := by decide +kernel
theorem dX7_count_52 : decode cX7_count 52 = .ok (.iload_n 1, 1) := by decide +kernel
theorem dX7_count_53 : decode cX7_count 53 = .ok (.iconst 3, 1) := by decide +kernel
theorem dX7_count_54 : decode cX7_count 54 = .ok (.isub, 1) := by decide +kernel
theorem dX7_count_55 : decode cX7_count 55 = .ok (.invokestatic 81, 3) := by decide +kernel
theorem dX7_count_58 : decode cX7_count 58 = .ok (.ifCond .eq 17, 3) := by decide +kernel
theorem dX7_count_61 : decode cX7_count 61 = .ok (.aload_n 0, 1) := by decide +kernel
theorem dX7_count_62 : decode cX7_count 62 = .ok (.getfield 34, 3) := by decide +kernel
theorem dX7_count_65 : decode cX7_count 65 = .ok (.iload_n 1, 1) := by decide +kernel
theorem dX7_count_66 : decode cX7_count 66 = .ok (.iconst 3, 1) := by decide +kernel
theorem dX7_count_67 : decode cX7_count 67 = .ok (.isub, 1) := by decide +kernel
theorem dX7_count_68 : decode cX7_count 68 = .ok (.aaload, 1) := by decide +kernel
theorem dX7_count_69 : decode cX7_count 69 = .ok (.invokevirtual 224, 3) := by decide +kernel
theorem dX7_count_72 : decode cX7_count 72 = .ok (.goto 5, 3) := by decide +kernel
theorem dX7_count_75 : decode cX7_count 75 = .ok (.bipush (-3), 2) := by decide +kernel
theorem dX7_count_77 : decode cX7_count 77 = .ok (.ireturn, 1) := by decide +kernel
theorem dX7_isRow_0 : decode cX7_isRow 0 = .ok (.iload_n 0, 1) := by decide +kernel
theorem dX7_isRow_1 : decode cX7_isRow 1 = .ok (.ifCond .lt 12, 3) := by decide +kernel
theorem dX7_isRow_4 : decode cX7_isRow 4 = .ok (.iload_n 0, 1) := by decide +kernel
theorem dX7_isRow_5 : decode cX7_isRow 5 = .ok (.iconst 4, 1) := by decide +kernel
theorem dX7_isRow_6 : decode cX7_isRow 6 = .ok (.if_icmp .ge 7, 3) := by decide +kernel
theorem dX7_isRow_9 : decode cX7_isRow 9 = .ok (.iconst 1, 1) := by decide +kernel
theorem dX7_isRow_10 : decode cX7_isRow 10 = .ok (.goto 4, 3) := by decide +kernel
theorem dX7_isRow_13 : decode cX7_isRow 13 = .ok (.iconst 0, 1) := by decide +kernel
theorem dX7_isRow_14 : decode cX7_isRow 14 = .ok (.ireturn, 1) := by decide +kernel
theorem dX7_isPower_0 : decode cX7_isPower 0 = .ok (.iload_n 0, 1) := by decide +kernel
theorem dX7_isPower_1 : decode cX7_isPower 1 = .ok (.ifCond .lt 13, 3) := by decide +kernel
theorem dX7_isPower_4 : decode cX7_isPower 4 = .ok (.iload_n 0, 1) := by decide +kernel
theorem dX7_isPower_5 : decode cX7_isPower 5 = .ok (.bipush 8, 2) := by decide +kernel
theorem dX7_isPower_7 : decode cX7_isPower 7 = .ok (.if_icmp .gt 7, 3) := by decide +kernel
theorem dX7_isPower_10 : decode cX7_isPower 10 = .ok (.iconst 1, 1) := by decide +kernel
theorem dX7_isPower_11 : decode cX7_isPower 11 = .ok (.goto 4, 3) := by decide +kernel
theorem dX7_isPower_14 : decode cX7_isPower 14 = .ok (.iconst 0, 1) := by decide +kernel
theorem dX7_isPower_15 : decode cX7_isPower 15 = .ok (.ireturn, 1) := by decide +kernel
theorem dX7_isKeptPlace_0 : decode cX7_isKeptPlace 0 = .ok (.iload_n 0, 1) := by decide +kernel
theorem dX7_isKeptPlace_1 : decode cX7_isKeptPlace 1 = .ok (.ifCond .lt 12, 3) := by decide +kernel
theorem dX7_isKeptPlace_4 : decode cX7_isKeptPlace 4 = .ok (.iload_n 0, 1) := by decide +kernel
theorem dX7_isKeptPlace_5 : decode cX7_isKeptPlace 5 = .ok (.iconst 2, 1) := by decide +kernel
theorem dX7_isKeptPlace_6 : decode cX7_isKeptPlace 6 = .ok (.if_icmp .ge 7, 3) := by decide +kernel
theorem dX7_isKeptPlace_9 : decode cX7_isKeptPlace 9 = .ok (.iconst 1, 1) := by decide +kernel
theorem dX7_isKeptPlace_10 : decode cX7_isKeptPlace 10 = .ok (.goto 4, 3) := by decide +kernel
theorem dX7_isKeptPlace_13 : decode cX7_isKeptPlace 13 = .ok (.iconst 0, 1) := by decide +kernel
theorem dX7_isKeptPlace_14 : decode cX7_isKeptPlace 14 = .ok (.ireturn, 1) := by decide +kernel
theorem dX7_copy_0 : decode cX7_copy 0 = .ok (.aload_n 0, 1) := by decide +kernel
theorem dX7_copy_1 : decode cX7_copy 1 = .ok (.iconst 0, 1) := by decide +kernel
theorem dX7_copy_2 : decode cX7_copy 2 = .ok (.aload_n 1, 1) := by decide +kernel
theorem dX7_copy_3 : decode cX7_copy 3 = .ok (.iconst 0, 1) := by decide +kernel
theorem dX7_copy_4 : decode cX7_copy 4 = .ok (.bipush 9, 2) := by decide +kernel
theorem dX7_copy_6 : decode cX7_copy 6 = .ok (.invokestatic 227, 3) := by decide +kernel
theorem dX7_copy_9 : decode cX7_copy 9 = .ok (.return_, 1) := by decide +kernel
theorem dX7_areAlike_0 : decode cX7_areAlike 0 = .ok (.iconst 0, 1) := by decide +kernel
theorem dX7_areAlike_1 : decode cX7_areAlike 1 = .ok (.istore_n 2, 1) := by decide +kernel
theorem dX7_areAlike_2 : decode cX7_areAlike 2 = .ok (.iload_n 2, 1) := by decide +kernel
theorem dX7_areAlike_3 : decode cX7_areAlike 3 = .ok (.bipush 9, 2) := by decide +kernel
theorem dX7_areAlike_5 : decode cX7_areAlike 5 = .ok (.if_icmp .ge 20, 3) := by decide +kernel
theorem dX7_areAlike_8 : decode cX7_areAlike 8 = .ok (.aload_n 0, 1) := by decide +kernel
theorem dX7_areAlike_9 : decode cX7_areAlike 9 = .ok (.iload_n 2, 1) := by decide +kernel
theorem dX7_areAlike_10 : decode cX7_areAlike 10 = .ok (.iaload, 1) := by decide +kernel
theorem dX7_areAlike_11 : decode cX7_areAlike 11 = .ok (.aload_n 1, 1) := by decide +kernel
theorem dX7_areAlike_12 : decode cX7_areAlike 12 = .ok (.iload_n 2, 1) := by decide +kernel
theorem dX7_areAlike_13 : decode cX7_areAlike 13 = .ok (.iaload, 1) := by decide +kernel
theorem dX7_areAlike_14 : decode cX7_areAlike 14 = .ok (.if_icmp .eq 5, 3) := by decide +kernel
theorem dX7_areAlike_17 : decode cX7_areAlike 17 = .ok (.iconst 0, 1) := by decide +kernel
theorem dX7_areAlike_18 : decode cX7_areAlike 18 = .ok (.ireturn, 1) := by decide +kernel
theorem dX7_areAlike_19 : decode cX7_areAlike 19 = .ok (.iinc 2 1, 3) := by decide +kernel
theorem dX7_areAlike_22 : decode cX7_areAlike 22 = .ok (.goto (-20), 3) := by decide +kernel
theorem dX7_areAlike_25 : decode cX7_areAlike 25 = .ok (.iconst 1, 1) := by decide +kernel
theorem dX7_areAlike_26 : decode cX7_areAlike 26 = .ok (.ireturn, 1) := by decide +kernel
theorem dX7_setMonomial_0 : decode cX7_setMonomial 0 = .ok (.iconst 0, 1) := by decide +kernel
theorem dX7_setMonomial_1 : decode cX7_setMonomial 1 = .ok (.istore_n 3, 1) := by decide +kernel
theorem dX7_setMonomial_2 : decode cX7_setMonomial 2 = .ok (.iload_n 3, 1) := by decide +kernel
theorem dX7_setMonomial_3 : decode cX7_setMonomial 3 = .ok (.bipush 9, 2) := by decide +kernel
theorem dX7_setMonomial_5 : decode cX7_setMonomial 5 = .ok (.if_icmp .ge 22, 3) := by decide +kernel
theorem dX7_setMonomial_8 : decode cX7_setMonomial 8 = .ok (.aload_n 0, 1) := by decide +kernel
theorem dX7_setMonomial_9 : decode cX7_setMonomial 9 = .ok (.iload_n 3, 1) := by decide +kernel
theorem dX7_setMonomial_10 : decode cX7_setMonomial 10 = .ok (.iload_n 3, 1) := by decide +kernel
theorem dX7_setMonomial_11 : decode cX7_setMonomial 11 = .ok (.iload_n 1, 1) := by decide +kernel
theorem dX7_setMonomial_12 : decode cX7_setMonomial 12 = .ok (.if_icmp .ne 7, 3) := by decide +kernel
theorem dX7_setMonomial_15 : decode cX7_setMonomial 15 = .ok (.iload_n 2, 1) := by decide +kernel
theorem dX7_setMonomial_16 : decode cX7_setMonomial 16 = .ok (.goto 4, 3) := by decide +kernel
theorem dX7_setMonomial_19 : decode cX7_setMonomial 19 = .ok (.iconst 0, 1) := by decide +kernel
theorem dX7_setMonomial_20 : decode cX7_setMonomial 20 = .ok (.iastore, 1) := by decide +kernel
theorem dX7_setMonomial_21 : decode cX7_setMonomial 21 = .ok (.iinc 3 1, 3) := by decide +kernel
theorem dX7_setMonomial_24 : decode cX7_setMonomial 24 = .ok (.goto (-22), 3) := by decide +kernel
theorem dX7_setMonomial_27 : decode cX7_setMonomial 27 = .ok (.return_, 1) := by decide +kernel
theorem dX7_addMultiple_0 : decode cX7_addMultiple 0 = .ok (.iconst 0, 1) := by decide +kernel
theorem dX7_addMultiple_1 : decode cX7_addMultiple 1 = .ok (.istore_n 3, 1) := by decide +kernel
theorem dX7_addMultiple_2 : decode cX7_addMultiple 2 = .ok (.iload_n 3, 1) := by decide +kernel
theorem dX7_addMultiple_3 : decode cX7_addMultiple 3 = .ok (.bipush 9, 2) := by decide +kernel
theorem dX7_addMultiple_5 : decode cX7_addMultiple 5 = .ok (.if_icmp .ge 25, 3) := by decide +kernel
theorem dX7_addMultiple_8 : decode cX7_addMultiple 8 = .ok (.aload_n 0, 1) := by decide +kernel
theorem dX7_addMultiple_9 : decode cX7_addMultiple 9 = .ok (.iload_n 3, 1) := by decide +kernel
theorem dX7_addMultiple_10 : decode cX7_addMultiple 10 = .ok (.aload_n 0, 1) := by decide +kernel
theorem dX7_addMultiple_11 : decode cX7_addMultiple 11 = .ok (.iload_n 3, 1) := by decide +kernel
theorem dX7_addMultiple_12 : decode cX7_addMultiple 12 = .ok (.iaload, 1) := by decide +kernel
theorem dX7_addMultiple_13 : decode cX7_addMultiple 13 = .ok (.aload_n 1, 1) := by decide +kernel
theorem dX7_addMultiple_14 : decode cX7_addMultiple 14 = .ok (.iload_n 3, 1) := by decide +kernel
theorem dX7_addMultiple_15 : decode cX7_addMultiple 15 = .ok (.iaload, 1) := by decide +kernel
theorem dX7_addMultiple_16 : decode cX7_addMultiple 16 = .ok (.iload_n 2, 1) := by decide +kernel
theorem dX7_addMultiple_17 : decode cX7_addMultiple 17 = .ok (.invokestatic 192, 3) := by decide +kernel
theorem dX7_addMultiple_20 : decode cX7_addMultiple 20 = .ok (.invokestatic 200, 3) := by decide +kernel
theorem dX7_addMultiple_23 : decode cX7_addMultiple 23 = .ok (.iastore, 1) := by decide +kernel
theorem dX7_addMultiple_24 : decode cX7_addMultiple 24 = .ok (.iinc 3 1, 3) := by decide +kernel
theorem dX7_addMultiple_27 : decode cX7_addMultiple 27 = .ok (.goto (-25), 3) := by decide +kernel
theorem dX7_addMultiple_30 : decode cX7_addMultiple 30 = .ok (.return_, 1) := by decide +kernel
theorem dX7_moveUp_0 : decode cX7_moveUp 0 = .ok (.bipush 8, 2) := by decide +kernel
theorem dX7_moveUp_2 : decode cX7_moveUp 2 = .ok (.istore_n 1, 1) := by decide +kernel
theorem dX7_moveUp_3 : decode cX7_moveUp 3 = .ok (.iload_n 1, 1) := by decide +kernel
theorem dX7_moveUp_4 : decode cX7_moveUp 4 = .ok (.ifCond .le 17, 3) := by decide +kernel
theorem dX7_moveUp_7 : decode cX7_moveUp 7 = .ok (.aload_n 0, 1) := by decide +kernel
theorem dX7_moveUp_8 : decode cX7_moveUp 8 = .ok (.iload_n 1, 1) := by decide +kernel
theorem dX7_moveUp_9 : decode cX7_moveUp 9 = .ok (.aload_n 0, 1) := by decide +kernel
theorem dX7_moveUp_10 : decode cX7_moveUp 10 = .ok (.iload_n 1, 1) := by decide +kernel
theorem dX7_moveUp_11 : decode cX7_moveUp 11 = .ok (.iconst 1, 1) := by decide +kernel
theorem dX7_moveUp_12 : decode cX7_moveUp 12 = .ok (.isub, 1) := by decide +kernel
theorem dX7_moveUp_13 : decode cX7_moveUp 13 = .ok (.iaload, 1) := by decide +kernel
theorem dX7_moveUp_14 : decode cX7_moveUp 14 = .ok (.iastore, 1) := by decide +kernel
theorem dX7_moveUp_15 : decode cX7_moveUp 15 = .ok (.iinc 1 (-1), 3) := by decide +kernel
theorem dX7_moveUp_18 : decode cX7_moveUp 18 = .ok (.goto (-15), 3) := by decide +kernel
theorem dX7_moveUp_21 : decode cX7_moveUp 21 = .ok (.aload_n 0, 1) := by decide +kernel
theorem dX7_moveUp_22 : decode cX7_moveUp 22 = .ok (.iconst 0, 1) := by decide +kernel
theorem dX7_moveUp_23 : decode cX7_moveUp 23 = .ok (.iconst 0, 1) := by decide +kernel
theorem dX7_moveUp_24 : decode cX7_moveUp 24 = .ok (.iastore, 1) := by decide +kernel
theorem dX7_moveUp_25 : decode cX7_moveUp 25 = .ok (.return_, 1) := by decide +kernel
theorem dX7_valueAt_0 : decode cX7_valueAt 0 = .ok (.iconst 0, 1) := by decide +kernel
theorem dX7_valueAt_1 : decode cX7_valueAt 1 = .ok (.istore_n 2, 1) := by decide +kernel
theorem dX7_valueAt_2 : decode cX7_valueAt 2 = .ok (.bipush 8, 2) := by decide +kernel
theorem dX7_valueAt_4 : decode cX7_valueAt 4 = .ok (.istore_n 3, 1) := by decide +kernel
theorem dX7_valueAt_5 : decode cX7_valueAt 5 = .ok (.iload_n 3, 1) := by decide +kernel
theorem dX7_valueAt_6 : decode cX7_valueAt 6 = .ok (.ifCond .lt 21, 3) := by decide +kernel
theorem dX7_valueAt_9 : decode cX7_valueAt 9 = .ok (.iload_n 2, 1) := by decide +kernel
theorem dX7_valueAt_10 : decode cX7_valueAt 10 = .ok (.iload_n 1, 1) := by decide +kernel
theorem dX7_valueAt_11 : decode cX7_valueAt 11 = .ok (.invokestatic 192, 3) := by decide +kernel
theorem dX7_valueAt_14 : decode cX7_valueAt 14 = .ok (.aload_n 0, 1) := by decide +kernel
theorem dX7_valueAt_15 : decode cX7_valueAt 15 = .ok (.iload_n 3, 1) := by decide +kernel
theorem dX7_valueAt_16 : decode cX7_valueAt 16 = .ok (.iaload, 1) := by decide +kernel
theorem dX7_valueAt_17 : decode cX7_valueAt 17 = .ok (.invokestatic 200, 3) := by decide +kernel
theorem dX7_valueAt_20 : decode cX7_valueAt 20 = .ok (.istore_n 2, 1) := by decide +kernel
theorem dX7_valueAt_21 : decode cX7_valueAt 21 = .ok (.iinc 3 (-1), 3) := by decide +kernel
theorem dX7_valueAt_24 : decode cX7_valueAt 24 = .ok (.goto (-19), 3) := by decide +kernel
theorem dX7_valueAt_27 : decode cX7_valueAt 27 = .ok (.iload_n 2, 1) := by decide +kernel
theorem dX7_valueAt_28 : decode cX7_valueAt 28 = .ok (.ireturn, 1) := by decide +kernel
end
section
theorem dX8_init_0 : decode cX8_init 0 = .ok (.aload_n 0, 1) := by decide +kernel
theorem dX8_init_1 : decode cX8_init 1 = .ok (.invokespecial 1, 3) := by decide +kernel
theorem dX8_init_4 : decode cX8_init 4 = .ok (.aload_n 0, 1) := by decide +kernel
theorem dX8_init_5 : decode cX8_init 5 = .ok (.bipush 36, 2) := by decide +kernel
theorem dX8_init_7 : decode cX8_init 7 = .ok (.newarray .int, 2) := by decide +kernel
theorem dX8_init_9 : decode cX8_init 9 = .ok (.putfield 7, 3) := by decide +kernel
theorem dX8_init_12 : decode cX8_init 12 = .ok (.aload_n 0, 1) := by decide +kernel
theorem dX8_init_13 : decode cX8_init 13 = .ok (.bipush 36, 2) := by decide +kernel
theorem dX8_init_15 : decode cX8_init 15 = .ok (.newarray .int, 2) := by decide +kernel
theorem dX8_init_17 : decode cX8_init 17 = .ok (.putfield 13, 3) := by decide +kernel
theorem dX8_init_20 : decode cX8_init 20 = .ok (.aload_n 0, 1) := by decide +kernel
theorem dX8_init_21 : decode cX8_init 21 = .ok (.bipush 9, 2) := by decide +kernel
theorem dX8_init_23 : decode cX8_init 23 = .ok (.newarray .int, 2) := by decide +kernel
theorem dX8_init_25 : decode cX8_init 25 = .ok (.putfield 16, 3) := by decide +kernel
theorem dX8_init_28 : decode cX8_init 28 = .ok (.aload_n 0, 1) := by decide +kernel
theorem dX8_init_29 : decode cX8_init 29 = .ok (.bipush 72, 2) := by decide +kernel
theorem dX8_init_31 : decode cX8_init 31 = .ok (.newarray .int, 2) := by decide +kernel
theorem dX8_init_33 : decode cX8_init 33 = .ok (.putfield 19, 3) := by decide +kernel
theorem dX8_init_36 : decode cX8_init 36 = .ok (.aload_n 0, 1) := by decide +kernel
theorem dX8_init_37 : decode cX8_init 37 = .ok (.sipush 162, 3) := by decide +kernel
theorem dX8_init_40 : decode cX8_init 40 = .ok (.newarray .int, 2) := by decide +kernel
theorem dX8_init_42 : decode cX8_init 42 = .ok (.putfield 22, 3) := by decide +kernel
theorem dX8_init_45 : decode cX8_init 45 = .ok (.aload_n 0, 1) := by decide +kernel
theorem dX8_init_46 : decode cX8_init 46 = .ok (.iconst 2, 1) := by decide +kernel
theorem dX8_init_47 : decode cX8_init 47 = .ok (.newarray .boolean, 2) := by decide +kernel
theorem dX8_init_49 : decode cX8_init 49 = .ok (.putfield 25, 3) := by decide +kernel
theorem dX8_init_52 : decode cX8_init 52 = .ok (.aload_n 0, 1) := by decide +kernel
theorem dX8_init_53 : decode cX8_init 53 = .ok (.bipush 120, 2) := by decide +kernel
theorem dX8_init_55 : decode cX8_init 55 = .ok (.newarray .int, 2) := by decide +kernel
theorem dX8_init_57 : decode cX8_init 57 = .ok (.putfield 29, 3) := by decide +kernel
theorem dX8_init_60 : decode cX8_init 60 = .ok (.aload_n 0, 1) := by decide +kernel
theorem dX8_init_61 : decode cX8_init 61 = .ok (.bipush 9, 2) := by decide +kernel
theorem dX8_init_63 : decode cX8_init 63 = .ok (.newarray .int, 2) := by decide +kernel
theorem dX8_init_65 : decode cX8_init 65 = .ok (.putfield 32, 3) := by decide +kernel
theorem dX8_init_68 : decode cX8_init 68 = .ok (.aload_n 0, 1) := by decide +kernel
theorem dX8_init_69 : decode cX8_init 69 = .ok (.bipush 9, 2) := by decide +kernel
theorem dX8_init_71 : decode cX8_init 71 = .ok (.newarray .int, 2) := by decide +kernel
theorem dX8_init_73 : decode cX8_init 73 = .ok (.putfield 35, 3) := by decide +kernel
theorem dX8_init_76 : decode cX8_init 76 = .ok (.aload_n 0, 1) := by decide +kernel
theorem dX8_init_77 : decode cX8_init 77 = .ok (.bipush 9, 2) := by decide +kernel
theorem dX8_init_79 : decode cX8_init 79 = .ok (.newarray .int, 2) := by decide +kernel
theorem dX8_init_81 : decode cX8_init 81 = .ok (.putfield 38, 3) := by decide +kernel
theorem dX8_init_84 : decode cX8_init 84 = .ok (.aload_n 0, 1) := by decide +kernel
theorem dX8_init_85 : decode cX8_init 85 = .ok (.bipush 9, 2) := by decide +kernel
theorem dX8_init_87 : decode cX8_init 87 = .ok (.newarray .int, 2) := by decide +kernel
theorem dX8_init_89 : decode cX8_init 89 = .ok (.putfield 41, 3) := by decide +kernel
theorem dX8_init_92 : decode cX8_init 92 = .ok (.aload_n 0, 1) := by decide +kernel
theorem dX8_init_93 : decode cX8_init 93 = .ok (.bipush 9, 2) := by decide +kernel
theorem dX8_init_95 : decode cX8_init 95 = .ok (.newarray .int, 2) := by decide +kernel
theorem dX8_init_97 : decode cX8_init 97 = .ok (.putfield 44, 3) := by decide +kernel
theorem dX8_init_100 : decode cX8_init 100 = .ok (.aload_n 0, 1) := by decide +kernel
theorem dX8_init_101 : decode cX8_init 101 = .ok (.bipush 9, 2) := by decide +kernel
theorem dX8_init_103 : decode cX8_init 103 = .ok (.newarray .int, 2) := by decide +kernel
theorem dX8_init_105 : decode cX8_init 105 = .ok (.putfield 47, 3) := by decide +kernel
theorem dX8_init_108 : decode cX8_init 108 = .ok (.aload_n 0, 1) := by decide +kernel
theorem dX8_init_109 : decode cX8_init 109 = .ok (.bipush 9, 2) := by decide +kernel
theorem dX8_init_111 : decode cX8_init 111 = .ok (.newarray .int, 2) := by decide +kernel
theorem dX8_init_113 : decode cX8_init 113 = .ok (.putfield 50, 3) := by decide +kernel
theorem dX8_init_116 : decode cX8_init 116 = .ok (.aload_n 0, 1) := by decide +kernel
theorem dX8_init_117 : decode cX8_init 117 = .ok (.bipush 63, 2) := by decide +kernel
theorem dX8_init_119 : decode cX8_init 119 = .ok (.newarray .int, 2) := by decide +kernel
theorem dX8_init_121 : decode cX8_init 121 = .ok (.putfield 53, 3) := by decide +kernel
theorem dX8_init_124 : decode cX8_init 124 = .ok (.aload_n 0, 1) := by decide +kernel
theorem dX8_init_125 : decode cX8_init 125 = .ok (.bipush 63, 2) := by decide +kernel
theorem dX8_init_127 : decode cX8_init 127 = .ok (.newarray .int, 2) := by decide +kernel
theorem dX8_init_129 : decode cX8_init 129 = .ok (.putfield 56, 3) := by decide +kernel
theorem dX8_init_132 : decode cX8_init 132 = .ok (.aload_n 0, 1) := by decide +kernel
theorem dX8_init_133 : decode cX8_init 133 = .ok (.bipush 9, 2) := by decide +kernel
theorem dX8_init_135 : decode cX8_init 135 = .ok (.newarray .int, 2) := by decide +kernel
theorem dX8_init_137 : decode cX8_init 137 = .ok (.putfield 59, 3) := by decide +kernel
theorem dX8_init_140 : decode cX8_init 140 = .ok (.aload_n 0, 1) := by decide +kernel
theorem dX8_init_141 : decode cX8_init 141 = .ok (.bipush 7, 2) := by decide +kernel
theorem dX8_init_143 : decode cX8_init 143 = .ok (.newarray .int, 2) := by decide +kernel
theorem dX8_init_145 : decode cX8_init 145 = .ok (.putfield 62, 3) := by decide +kernel
theorem dX8_init_148 : decode cX8_init 148 = .ok (.aload_n 0, 1) := by decide +kernel
theorem dX8_init_149 : decode cX8_init 149 = .ok (.bipush 7, 2) := by decide +kernel
theorem dX8_init_151 : decode cX8_init 151 = .ok (.newarray .int, 2) := by decide +kernel
theorem dX8_init_153 : decode cX8_init 153 = .ok (.putfield 65, 3) := by decide +kernel
theorem dX8_init_156 : decode cX8_init 156 = .ok (.aload_n 0, 1) := by decide +kernel
theorem dX8_init_157 : decode cX8_init 157 = .ok (.bipush 7, 2) := by decide +kernel
theorem dX8_init_159 : decode cX8_init 159 = .ok (.newarray .int, 2) := by decide +kernel
theorem dX8_init_161 : decode cX8_init 161 = .ok (.putfield 68, 3) := by decide +kernel
theorem dX8_init_164 : decode cX8_init 164 = .ok (.aload_n 0, 1) := by decide +kernel
theorem dX8_init_165 : decode cX8_init 165 = .ok (.bipush 9, 2) := by decide +kernel
theorem dX8_init_167 : decode cX8_init 167 = .ok (.newarray .int, 2) := by decide +kernel
theorem dX8_init_169 : decode cX8_init 169 = .ok (.putfield 71, 3) := by decide +kernel
theorem dX8_init_172 : decode cX8_init 172 = .ok (.aload_n 0, 1) := by decide +kernel
theorem dX8_init_173 : decode cX8_init 173 = .ok (.bipush 9, 2) := by decide +kernel
theorem dX8_init_175 : decode cX8_init 175 = .ok (.newarray .int, 2) := by decide +kernel
theorem dX8_init_177 : decode cX8_init 177 = .ok (.putfield 74, 3) := by decide +kernel
theorem dX8_init_180 : decode cX8_init 180 = .ok (.aload_n 0, 1) := by decide +kernel
theorem dX8_init_181 : decode cX8_init 181 = .ok (.bipush 9, 2) := by decide +kernel
theorem dX8_init_183 : decode cX8_init 183 = .ok (.newarray .int, 2) := by decide +kernel
theorem dX8_init_185 : decode cX8_init 185 = .ok (.putfield 77, 3) := by decide +kernel
theorem dX8_init_188 : decode cX8_init 188 = .ok (.aload_n 0, 1) := by decide +kernel
theorem dX8_init_189 : decode cX8_init 189 = .ok (.bipush 9, 2) := by decide +kernel
theorem dX8_init_191 : decode cX8_init 191 = .ok (.newarray .int, 2) := by decide +kernel
theorem dX8_init_193 : decode cX8_init 193 = .ok (.putfield 80, 3) := by decide +kernel
theorem dX8_init_196 : decode cX8_init 196 = .ok (.aload_n 0, 1) := by decide +kernel
theorem dX8_init_197 : decode cX8_init 197 = .ok (.bipush 9, 2) := by decide +kernel
theorem dX8_init_199 : decode cX8_init 199 = .ok (.newarray .int, 2) := by decide +kernel
theorem dX8_init_201 : decode cX8_init 201 = .ok (.putfield 83, 3) := by decide +kernel
theorem dX8_init_204 : decode cX8_init 204 = .ok (.aload_n 0, 1) := by decide +kernel
theorem dX8_init_205 : decode cX8_init 205 = .ok (.bipush 81, 2) := by decide +kernel
theorem dX8_init_207 : decode cX8_init 207 = .ok (.newarray .int, 2) := by decide +kernel
theorem dX8_init_209 : decode cX8_init 209 = .ok (.putfield 86, 3) := by decide +kernel
theorem dX8_init_212 : decode cX8_init 212 = .ok (.aload_n 0, 1) := by decide +kernel
theorem dX8_init_213 : decode cX8_init 213 = .ok (.bipush 81, 2) := by decide +kernel
theorem dX8_init_215 : decode cX8_init 215 = .ok (.newarray .int, 2) := by decide +kernel
theorem dX8_init_217 : decode cX8_init 217 = .ok (.putfield 89, 3) := by decide +kernel
theorem dX8_init_220 : decode cX8_init 220 = .ok (.aload_n 0, 1) := by decide +kernel
theorem dX8_init_221 : decode cX8_init 221 = .ok (.bipush 9, 2) := by decide +kernel
theorem dX8_init_223 : decode cX8_init 223 = .ok (.newarray .int, 2) := by decide +kernel
theorem dX8_init_225 : decode cX8_init 225 = .ok (.putfield 92, 3) := by decide +kernel
theorem dX8_init_228 : decode cX8_init 228 = .ok (.aload_n 0, 1) := by decide +kernel
theorem dX8_init_229 : decode cX8_init 229 = .ok (.bipush 9, 2) := by decide +kernel
theorem dX8_init_231 : decode cX8_init 231 = .ok (.newarray .int, 2) := by decide +kernel
theorem dX8_init_233 : decode cX8_init 233 = .ok (.putfield 95, 3) := by decide +kernel
theorem dX8_init_236 : decode cX8_init 236 = .ok (.aload_n 0, 1) := by decide +kernel
theorem dX8_init_237 : decode cX8_init 237 = .ok (.bipush 9, 2) := by decide +kernel
theorem dX8_init_239 : decode cX8_init 239 = .ok (.newarray .int, 2) := by decide +kernel
theorem dX8_init_241 : decode cX8_init 241 = .ok (.putfield 98, 3) := by decide +kernel
theorem dX8_init_244 : decode cX8_init 244 = .ok (.aload_n 0, 1) := by decide +kernel
theorem dX8_init_245 : decode cX8_init 245 = .ok (.bipush 9, 2) := by decide +kernel
theorem dX8_init_247 : decode cX8_init 247 = .ok (.newarray .int, 2) := by decide +kernel
theorem dX8_init_249 : decode cX8_init 249 = .ok (.putfield 101, 3) := by decide +kernel
theorem dX8_init_252 : decode cX8_init 252 = .ok (.iconst 0, 1) := by decide +kernel
theorem dX8_init_253 : decode cX8_init 253 = .ok (.istore_n 1, 1) := by decide +kernel
theorem dX8_init_254 : decode cX8_init 254 = .ok (.iload_n 1, 1) := by decide +kernel
theorem dX8_init_255 : decode cX8_init 255 = .ok (.iconst 4, 1) := by decide +kernel
theorem dX8_init_256 : decode cX8_init 256 = .ok (.if_icmp .ge 31, 3) := by decide +kernel
theorem dX8_init_259 : decode cX8_init 259 = .ok (.aload_n 0, 1) := by decide +kernel
theorem dX8_init_260 : decode cX8_init 260 = .ok (.getfield 7, 3) := by decide +kernel
theorem dX8_init_263 : decode cX8_init 263 = .ok (.bipush 9, 2) := by decide +kernel
theorem dX8_init_265 : decode cX8_init 265 = .ok (.iload_n 1, 1) := by decide +kernel
theorem dX8_init_266 : decode cX8_init 266 = .ok (.imul, 1) := by decide +kernel
theorem dX8_init_267 : decode cX8_init 267 = .ok (.iconst 1, 1) := by decide +kernel
theorem dX8_init_268 : decode cX8_init 268 = .ok (.iastore, 1) := by decide +kernel
theorem dX8_init_269 : decode cX8_init 269 = .ok (.aload_n 0, 1) := by decide +kernel
theorem dX8_init_270 : decode cX8_init 270 = .ok (.getfield 13, 3) := by decide +kernel
theorem dX8_init_273 : decode cX8_init 273 = .ok (.bipush 9, 2) := by decide +kernel
theorem dX8_init_275 : decode cX8_init 275 = .ok (.iload_n 1, 1) := by decide +kernel
theorem dX8_init_276 : decode cX8_init 276 = .ok (.imul, 1) := by decide +kernel
theorem dX8_init_277 : decode cX8_init 277 = .ok (.iconst 1, 1) := by decide +kernel
theorem dX8_init_278 : decode cX8_init 278 = .ok (.iadd, 1) := by decide +kernel
theorem dX8_init_279 : decode cX8_init 279 = .ok (.iconst 1, 1) := by decide +kernel
theorem dX8_init_280 : decode cX8_init 280 = .ok (.iastore, 1) := by decide +kernel
theorem dX8_init_281 : decode cX8_init 281 = .ok (.iinc 1 1, 3) := by decide +kernel
theorem dX8_init_284 : decode cX8_init 284 = .ok (.goto (-30), 3) := by decide +kernel
theorem dX8_init_287 : decode cX8_init 287 = .ok (.return_, 1) := by decide +kernel
theorem dX8_in_0 : decode cX8_in 0 = .ok (.iload_n 0, 1) := by decide +kernel
theorem dX8_in_1 : decode cX8_in 1 = .ok (.iload_n 1, 1) := by decide +kernel
theorem dX8_in_2 : decode cX8_in 2 = .ok (.if_icmp .lt 12, 3) := by decide +kernel
theorem dX8_in_5 : decode cX8_in 5 = .ok (.iload_n 0, 1) := by decide +kernel
theorem dX8_in_6 : decode cX8_in 6 = .ok (.iload_n 2, 1) := by decide +kernel
theorem dX8_in_7 : decode cX8_in 7 = .ok (.if_icmp .gt 7, 3) := by decide +kernel
theorem dX8_in_10 : decode cX8_in 10 = .ok (.iconst 1, 1) := by decide +kernel
theorem dX8_in_11 : decode cX8_in 11 = .ok (.goto 4, 3) := by decide +kernel
theorem dX8_in_14 : decode cX8_in 14 = .ok (.iconst 0, 1) := by decide +kernel
theorem dX8_in_15 : decode cX8_in 15 = .ok (.ireturn, 1) := by decide +kernel
theorem dX8_isRow_0 : decode cX8_isRow 0 = .ok (.iload_n 0, 1) := by decide +kernel
theorem dX8_isRow_1 : decode cX8_isRow 1 = .ok (.iconst 0, 1) := by decide +kernel
theorem dX8_isRow_2 : decode cX8_isRow 2 = .ok (.iconst 3, 1) := by decide +kernel
theorem dX8_isRow_3 : decode cX8_isRow 3 = .ok (.invokestatic 104, 3) := by decide +kernel
theorem dX8_isRow_6 : decode cX8_isRow 6 = .ok (.ireturn, 1) := by decide +kernel
theorem dX8_isPlace_0 : decode cX8_isPlace 0 = .ok (.iload_n 0, 1) := by decide +kernel
theorem dX8_isPlace_1 : decode cX8_isPlace 1 = .ok (.iconst 0, 1) := by decide +kernel
theorem dX8_isPlace_2 : decode cX8_isPlace 2 = .ok (.bipush 8, 2) := by decide +kernel
theorem dX8_isPlace_4 : decode cX8_isPlace 4 = .ok (.invokestatic 104, 3) := by decide +kernel
theorem dX8_isPlace_7 : decode cX8_isPlace 7 = .ok (.ireturn, 1) := by decide +kernel
theorem dX8_isNumber_0 : decode cX8_isNumber 0 = .ok (.iload_n 0, 1) := by decide +kernel
theorem dX8_isNumber_1 : decode cX8_isNumber 1 = .ok (.iconst 0, 1) := by decide +kernel
theorem dX8_isNumber_2 : decode cX8_isNumber 2 = .ok (.sipush 9972, 3) := by decide +kernel
theorem dX8_isNumber_5 : decode cX8_isNumber 5 = .ok (.invokestatic 104, 3) := by decide +kernel
theorem dX8_isNumber_8 : decode cX8_isNumber 8 = .ok (.ireturn, 1) := by decide +kernel
theorem dX8_bring_0 : decode cX8_bring 0 = .ok (.iconst 0, 1) := by decide +kernel
theorem dX8_bring_1 : decode cX8_bring 1 = .ok (.istore 5, 2) := by decide +kernel
theorem dX8_bring_3 : decode cX8_bring 3 = .ok (.iload 5, 2) := by decide +kernel
theorem dX8_bring_5 : decode cX8_bring 5 = .ok (.iload 4, 2) := by decide +kernel
theorem dX8_bring_7 : decode cX8_bring 7 = .ok (.if_icmp .ge 21, 3) := by decide +kernel
theorem dX8_bring_10 : decode cX8_bring 10 = .ok (.aload_n 2, 1) := by decide +kernel
theorem dX8_bring_11 : decode cX8_bring 11 = .ok (.iload_n 3, 1) := by decide +kernel
theorem dX8_bring_12 : decode cX8_bring 12 = .ok (.iload 5, 2) := by decide +kernel
theorem dX8_bring_14 : decode cX8_bring 14 = .ok (.iadd, 1) := by decide +kernel
theorem dX8_bring_15 : decode cX8_bring 15 = .ok (.aload_n 0, 1) := by decide +kernel
theorem dX8_bring_16 : decode cX8_bring 16 = .ok (.iload_n 1, 1) := by decide +kernel
theorem dX8_bring_17 : decode cX8_bring 17 = .ok (.iload 5, 2) := by decide +kernel
theorem dX8_bring_19 : decode cX8_bring 19 = .ok (.iadd, 1) := by decide +kernel
theorem dX8_bring_20 : decode cX8_bring 20 = .ok (.iaload, 1) := by decide +kernel
theorem dX8_bring_21 : decode cX8_bring 21 = .ok (.iastore, 1) := by decide +kernel
theorem dX8_bring_22 : decode cX8_bring 22 = .ok (.iinc 5 1, 3) := by decide +kernel
theorem dX8_bring_25 : decode cX8_bring 25 = .ok (.goto (-22), 3) := by decide +kernel
theorem dX8_bring_28 : decode cX8_bring 28 = .ok (.return_, 1) := by decide +kernel
theorem dX8_together_0 : decode cX8_together 0 = .ok (.iload_n 0, 1) := by decide +kernel
theorem dX8_together_1 : decode cX8_together 1 = .ok (.iload_n 1, 1) := by decide +kernel
theorem dX8_together_2 : decode cX8_together 2 = .ok (.iadd, 1) := by decide +kernel
theorem dX8_together_3 : decode cX8_together 3 = .ok (.sipush 9973, 3) := by decide +kernel
theorem dX8_together_6 : decode cX8_together 6 = .ok (.irem, 1) := by decide +kernel
theorem dX8_together_7 : decode cX8_together 7 = .ok (.ireturn, 1) := by decide +kernel
theorem dX8_less_0 : decode cX8_less 0 = .ok (.iload_n 0, 1) := by decide +kernel
theorem dX8_less_1 : decode cX8_less 1 = .ok (.sipush 9973, 3) := by decide +kernel
theorem dX8_less_4 : decode cX8_less 4 = .ok (.iadd, 1) := by decide +kernel
theorem dX8_less_5 : decode cX8_less 5 = .ok (.iload_n 1, 1) := by decide +kernel
theorem dX8_less_6 : decode cX8_less 6 = .ok (.isub, 1) := by decide +kernel
theorem dX8_less_7 : decode cX8_less 7 = .ok (.sipush 9973, 3) := by decide +kernel
theorem dX8_less_10 : decode cX8_less 10 = .ok (.irem, 1) := by decide +kernel
theorem dX8_less_11 : decode cX8_less 11 = .ok (.ireturn, 1) := by decide +kernel
theorem dX8_product_0 : decode cX8_product 0 = .ok (.iload_n 0, 1) := by decide +kernel
theorem dX8_product_1 : decode cX8_product 1 = .ok (.iload_n 1, 1) := by decide +kernel
theorem dX8_product_2 : decode cX8_product 2 = .ok (.imul, 1) := by decide +kernel
theorem dX8_product_3 : decode cX8_product 3 = .ok (.sipush 9973, 3) := by decide +kernel
theorem dX8_product_6 : decode cX8_product 6 = .ok (.irem, 1) := by decide +kernel
theorem dX8_product_7 : decode cX8_product 7 = .ok (.ireturn, 1) := by decide +kernel
theorem dX8_over_0 : decode cX8_over 0 = .ok (.iconst 1, 1) := by decide +kernel
theorem dX8_over_1 : decode cX8_over 1 = .ok (.istore_n 1, 1) := by decide +kernel
theorem dX8_over_2 : decode cX8_over 2 = .ok (.iload_n 0, 1) := by decide +kernel
theorem dX8_over_3 : decode cX8_over 3 = .ok (.istore_n 2, 1) := by decide +kernel
theorem dX8_over_4 : decode cX8_over 4 = .ok (.sipush 9971, 3) := by decide +kernel
theorem dX8_over_7 : decode cX8_over 7 = .ok (.istore_n 3, 1) := by decide +kernel
theorem dX8_over_8 : decode cX8_over 8 = .ok (.iload_n 3, 1) := by decide +kernel
theorem dX8_over_9 : decode cX8_over 9 = .ok (.ifCond .le 33, 3) := by decide +kernel
theorem dX8_over_12 : decode cX8_over 12 = .ok (.iload_n 3, 1) := by decide +kernel
theorem dX8_over_13 : decode cX8_over 13 = .ok (.iconst 2, 1) := by decide +kernel
theorem dX8_over_14 : decode cX8_over 14 = .ok (.irem, 1) := by decide +kernel
theorem dX8_over_15 : decode cX8_over 15 = .ok (.iconst 1, 1) := by decide +kernel
theorem dX8_over_16 : decode cX8_over 16 = .ok (.if_icmp .ne 11, 3) := by decide +kernel
theorem dX8_over_19 : decode cX8_over 19 = .ok (.iload_n 1, 1) := by decide +kernel
theorem dX8_over_20 : decode cX8_over 20 = .ok (.iload_n 2, 1) := by decide +kernel
theorem dX8_over_21 : decode cX8_over 21 = .ok (.invokestatic 108, 3) := by decide +kernel
theorem dX8_over_24 : decode cX8_over 24 = .ok (.goto 4, 3) := by decide +kernel
theorem dX8_over_27 : decode cX8_over 27 = .ok (.iload_n 1, 1) := by decide +kernel
theorem dX8_over_28 : decode cX8_over 28 = .ok (.istore_n 1, 1) := by decide +kernel
theorem dX8_over_29 : decode cX8_over 29 = .ok (.iload_n 2, 1) := by decide +kernel
theorem dX8_over_30 : decode cX8_over 30 = .ok (.iload_n 2, 1) := by decide +kernel
theorem dX8_over_31 : decode cX8_over 31 = .ok (.invokestatic 108, 3) := by decide +kernel
theorem dX8_over_34 : decode cX8_over 34 = .ok (.istore_n 2, 1) := by decide +kernel
theorem dX8_over_35 : decode cX8_over 35 = .ok (.iload_n 3, 1) := by decide +kernel
theorem dX8_over_36 : decode cX8_over 36 = .ok (.iconst 2, 1) := by decide +kernel
theorem dX8_over_37 : decode cX8_over 37 = .ok (.idiv, 1) := by decide +kernel
theorem dX8_over_38 : decode cX8_over 38 = .ok (.istore_n 3, 1) := by decide +kernel
theorem dX8_over_39 : decode cX8_over 39 = .ok (.goto (-31), 3) := by decide +kernel
theorem dX8_over_42 : decode cX8_over 42 = .ok (.iload_n 1, 1) := by decide +kernel
theorem dX8_over_43 : decode cX8_over 43 = .ok (.ireturn, 1) := by decide +kernel
theorem dX8_toMade_0 : decode cX8_toMade 0 = .ok (.aload_n 0, 1) := by decide +kernel
theorem dX8_toMade_1 : decode cX8_toMade 1 = .ok (.getfield 32, 3) := by decide +kernel
theorem dX8_toMade_4 : decode cX8_toMade 4 = .ok (.iconst 0, 1) := by decide +kernel
theorem dX8_toMade_5 : decode cX8_toMade 5 = .ok (.aload_n 1, 1) := by decide +kernel
theorem dX8_toMade_6 : decode cX8_toMade 6 = .ok (.iload_n 2, 1) := by decide +kernel
theorem dX8_toMade_7 : decode cX8_toMade 7 = .ok (.bipush 9, 2) := by decide +kernel
theorem dX8_toMade_9 : decode cX8_toMade 9 = .ok (.invokestatic 112, 3) := by decide +kernel
theorem dX8_toMade_12 : decode cX8_toMade 12 = .ok (.return_, 1) := by decide +kernel
theorem dX8_clears_0 : decode cX8_clears 0 = .ok (.iconst 0, 1) := by decide +kernel
theorem dX8_clears_1 : decode cX8_clears 1 = .ok (.istore_n 1, 1) := by decide +kernel
theorem dX8_clears_2 : decode cX8_clears 2 = .ok (.iload_n 1, 1) := by decide +kernel
theorem dX8_clears_3 : decode cX8_clears 3 = .ok (.bipush 9, 2) := by decide +kernel
theorem dX8_clears_5 : decode cX8_clears 5 = .ok (.if_icmp .ge 16, 3) := by decide +kernel
theorem dX8_clears_8 : decode cX8_clears 8 = .ok (.aload_n 0, 1) := by decide +kernel
theorem dX8_clears_9 : decode cX8_clears 9 = .ok (.getfield 32, 3) := by decide +kernel
theorem dX8_clears_12 : decode cX8_clears 12 = .ok (.iload_n 1, 1) := by decide +kernel
theorem dX8_clears_13 : decode cX8_clears 13 = .ok (.iconst 0, 1) := by decide +kernel
theorem dX8_clears_14 : decode cX8_clears 14 = .ok (.iastore, 1) := by decide +kernel
theorem dX8_clears_15 : decode cX8_clears 15 = .ok (.iinc 1 1, 3) := by decide +kernel
theorem dX8_clears_18 : decode cX8_clears 18 = .ok (.goto (-16), 3) := by decide +kernel
theorem dX8_clears_21 : decode cX8_clears 21 = .ok (.return_, 1) := by decide +kernel
theorem dX8_multiplies_0 : decode cX8_multiplies 0 = .ok (.aload_n 0, 1) := by decide +kernel
theorem dX8_multiplies_1 : decode cX8_multiplies 1 = .ok (.invokevirtual 116, 3) := by decide +kernel
theorem dX8_multiplies_4 : decode cX8_multiplies 4 = .ok (.iconst 0, 1) := by decide +kernel
theorem dX8_multiplies_5 : decode cX8_multiplies 5 = .ok (.istore 6, 2) := by decide +kernel
theorem dX8_multiplies_7 : decode cX8_multiplies 7 = .ok (.iload 6, 2) := by decide +kernel
theorem dX8_multiplies_9 : decode cX8_multiplies 9 = .ok (.bipush 9, 2) := by decide +kernel
theorem dX8_multiplies_11 : decode cX8_multiplies 11 = .ok (.if_icmp .ge 67, 3) := by decide +kernel
theorem dX8_multiplies_14 : decode cX8_multiplies 14 = .ok (.iconst 0, 1) := by decide +kernel
theorem dX8_multiplies_15 : decode cX8_multiplies 15 = .ok (.istore 7, 2) := by decide +kernel
theorem dX8_multiplies_17 : decode cX8_multiplies 17 = .ok (.iload 6, 2) := by decide +kernel
theorem dX8_multiplies_19 : decode cX8_multiplies 19 = .ok (.iload 7, 2) := by decide +kernel
theorem dX8_multiplies_21 : decode cX8_multiplies 21 = .ok (.iadd, 1) := by decide +kernel
theorem dX8_multiplies_22 : decode cX8_multiplies 22 = .ok (.bipush 9, 2) := by decide +kernel
theorem dX8_multiplies_24 : decode cX8_multiplies 24 = .ok (.if_icmp .ge 48, 3) := by decide +kernel
theorem dX8_multiplies_27 : decode cX8_multiplies 27 = .ok (.aload_n 0, 1) := by decide +kernel
theorem dX8_multiplies_28 : decode cX8_multiplies 28 = .ok (.getfield 32, 3) := by decide +kernel
theorem dX8_multiplies_31 : decode cX8_multiplies 31 = .ok (.iload 6, 2) := by decide +kernel
theorem dX8_multiplies_33 : decode cX8_multiplies 33 = .ok (.iload 7, 2) := by decide +kernel
theorem dX8_multiplies_35 : decode cX8_multiplies 35 = .ok (.iadd, 1) := by decide +kernel
theorem dX8_multiplies_36 : decode cX8_multiplies 36 = .ok (.aload_n 0, 1) := by decide +kernel
theorem dX8_multiplies_37 : decode cX8_multiplies 37 = .ok (.getfield 32, 3) := by decide +kernel
theorem dX8_multiplies_40 : decode cX8_multiplies 40 = .ok (.iload 6, 2) := by decide +kernel
theorem dX8_multiplies_42 : decode cX8_multiplies 42 = .ok (.iload 7, 2) := by decide +kernel
theorem dX8_multiplies_44 : decode cX8_multiplies 44 = .ok (.iadd, 1) := by decide +kernel
theorem dX8_multiplies_45 : decode cX8_multiplies 45 = .ok (.iaload, 1) := by decide +kernel
theorem dX8_multiplies_46 : decode cX8_multiplies 46 = .ok (.aload_n 1, 1) := by decide +kernel
theorem dX8_multiplies_47 : decode cX8_multiplies 47 = .ok (.iload_n 2, 1) := by decide +kernel
theorem dX8_multiplies_48 : decode cX8_multiplies 48 = .ok (.iload 6, 2) := by decide +kernel
theorem dX8_multiplies_50 : decode cX8_multiplies 50 = .ok (.iadd, 1) := by decide +kernel
theorem dX8_multiplies_51 : decode cX8_multiplies 51 = .ok (.iaload, 1) := by decide +kernel
theorem dX8_multiplies_52 : decode cX8_multiplies 52 = .ok (.aload_n 3, 1) := by decide +kernel
theorem dX8_multiplies_53 : decode cX8_multiplies 53 = .ok (.iload 4, 2) := by decide +kernel
theorem dX8_multiplies_55 : decode cX8_multiplies 55 = .ok (.iload 7, 2) := by decide +kernel
theorem dX8_multiplies_57 : decode cX8_multiplies 57 = .ok (.iadd, 1) := by decide +kernel
theorem dX8_multiplies_58 : decode cX8_multiplies 58 = .ok (.iaload, 1) := by decide +kernel
theorem dX8_multiplies_59 : decode cX8_multiplies 59 = .ok (.invokestatic 108, 3) := by decide +kernel
theorem dX8_multiplies_62 : decode cX8_multiplies 62 = .ok (.invokestatic 119, 3) := by decide +kernel
theorem dX8_multiplies_65 : decode cX8_multiplies 65 = .ok (.iastore, 1) := by decide +kernel
theorem dX8_multiplies_66 : decode cX8_multiplies 66 = .ok (.iinc 7 1, 3) := by decide +kernel
theorem dX8_multiplies_69 : decode cX8_multiplies 69 = .ok (.goto (-52), 3) := by decide +kernel
theorem dX8_multiplies_72 : decode cX8_multiplies 72 = .ok (.iinc 6 1, 3) := by decide +kernel
theorem dX8_multiplies_75 : decode cX8_multiplies 75 = .ok (.goto (-68), 3) := by decide +kernel
theorem dX8_multiplies_78 : decode cX8_multiplies 78 = .ok (.aload_n 0, 1) := by decide +kernel
theorem dX8_multiplies_79 : decode cX8_multiplies 79 = .ok (.aload 5, 2) := by decide +kernel
theorem dX8_multiplies_81 : decode cX8_multiplies 81 = .ok (.iconst 0, 1) := by decide +kernel
theorem dX8_multiplies_82 : decode cX8_multiplies 82 = .ok (.invokevirtual 122, 3) := by decide +kernel
theorem dX8_multiplies_85 : decode cX8_multiplies 85 = .ok (.return_, 1) := by decide +kernel
theorem dX8_divides_0 : decode cX8_divides 0 = .ok (.aload_n 3, 1) := by decide +kernel
theorem dX8_divides_1 : decode cX8_divides 1 = .ok (.iload 4, 2) := by decide +kernel
theorem dX8_divides_3 : decode cX8_divides 3 = .ok (.iaload, 1) := by decide +kernel
theorem dX8_divides_4 : decode cX8_divides 4 = .ok (.invokestatic 126, 3) := by decide +kernel
theorem dX8_divides_7 : decode cX8_divides 7 = .ok (.istore 6, 2) := by decide +kernel
theorem dX8_divides_9 : decode cX8_divides 9 = .ok (.aload_n 0, 1) := by decide +kernel
theorem dX8_divides_10 : decode cX8_divides 10 = .ok (.invokevirtual 116, 3) := by decide +kernel
theorem dX8_divides_13 : decode cX8_divides 13 = .ok (.iconst 0, 1) := by decide +kernel
theorem dX8_divides_14 : decode cX8_divides 14 = .ok (.istore 7, 2) := by decide +kernel
theorem dX8_divides_16 : decode cX8_divides 16 = .ok (.iload 7, 2) := by decide +kernel
theorem dX8_divides_18 : decode cX8_divides 18 = .ok (.bipush 9, 2) := by decide +kernel
theorem dX8_divides_20 : decode cX8_divides 20 = .ok (.if_icmp .ge 74, 3) := by decide +kernel
theorem dX8_divides_23 : decode cX8_divides 23 = .ok (.aload_n 1, 1) := by decide +kernel
theorem dX8_divides_24 : decode cX8_divides 24 = .ok (.iload_n 2, 1) := by decide +kernel
theorem dX8_divides_25 : decode cX8_divides 25 = .ok (.iload 7, 2) := by decide +kernel
theorem dX8_divides_27 : decode cX8_divides 27 = .ok (.iadd, 1) := by decide +kernel
theorem dX8_divides_28 : decode cX8_divides 28 = .ok (.iaload, 1) := by decide +kernel
theorem dX8_divides_29 : decode cX8_divides 29 = .ok (.istore 8, 2) := by decide +kernel
theorem dX8_divides_31 : decode cX8_divides 31 = .ok (.iconst 0, 1) := by decide +kernel
theorem dX8_divides_32 : decode cX8_divides 32 = .ok (.istore 9, 2) := by decide +kernel
theorem dX8_divides_34 : decode cX8_divides 34 = .ok (.iload 9, 2) := by decide +kernel
theorem dX8_divides_36 : decode cX8_divides 36 = .ok (.iload 7, 2) := by decide +kernel
theorem dX8_divides_38 : decode cX8_divides 38 = .ok (.if_icmp .ge 36, 3) := by decide +kernel
theorem dX8_divides_41 : decode cX8_divides 41 = .ok (.iload 8, 2) := by decide +kernel
theorem dX8_divides_43 : decode cX8_divides 43 = .ok (.aload_n 0, 1) := by decide +kernel
theorem dX8_divides_44 : decode cX8_divides 44 = .ok (.getfield 32, 3) := by decide +kernel
theorem dX8_divides_47 : decode cX8_divides 47 = .ok (.iload 9, 2) := by decide +kernel
theorem dX8_divides_49 : decode cX8_divides 49 = .ok (.iaload, 1) := by decide +kernel
theorem dX8_divides_50 : decode cX8_divides 50 = .ok (.aload_n 3, 1) := by decide +kernel
theorem dX8_divides_51 : decode cX8_divides 51 = .ok (.iload 4, 2) := by decide +kernel
theorem dX8_divides_53 : decode cX8_divides 53 = .ok (.iload 7, 2) := by decide +kernel
theorem dX8_divides_55 : decode cX8_divides 55 = .ok (.iadd, 1) := by decide +kernel
theorem dX8_divides_56 : decode cX8_divides 56 = .ok (.iload 9, 2) := by decide +kernel
theorem dX8_divides_58 : decode cX8_divides 58 = .ok (.isub, 1) := by decide +kernel
theorem dX8_divides_59 : decode cX8_divides 59 = .ok (.iaload, 1) := by decide +kernel
theorem dX8_divides_60 : decode cX8_divides 60 = .ok (.invokestatic 108, 3) := by decide +kernel
theorem dX8_divides_63 : decode cX8_divides 63 = .ok (.invokestatic 130, 3) := by decide +kernel
theorem dX8_divides_66 : decode cX8_divides 66 = .ok (.istore 8, 2) := by decide +kernel
theorem dX8_divides_68 : decode cX8_divides 68 = .ok (.iinc 9 1, 3) := by decide +kernel
theorem dX8_divides_71 : decode cX8_divides 71 = .ok (.goto (-37), 3) := by decide +kernel
theorem dX8_divides_74 : decode cX8_divides 74 = .ok (.aload_n 0, 1) := by decide +kernel
theorem dX8_divides_75 : decode cX8_divides 75 = .ok (.getfield 32, 3) := by decide +kernel
theorem dX8_divides_78 : decode cX8_divides 78 = .ok (.iload 7, 2) := by decide +kernel
theorem dX8_divides_80 : decode cX8_divides 80 = .ok (.iload 8, 2) := by decide +kernel
theorem dX8_divides_82 : decode cX8_divides 82 = .ok (.iload 6, 2) := by decide +kernel
theorem dX8_divides_84 : decode cX8_divides 84 = .ok (.invokestatic 108, 3) := by decide +kernel
theorem dX8_divides_87 : decode cX8_divides 87 = .ok (.iastore, 1) := by decide +kernel
theorem dX8_divides_88 : decode cX8_divides 88 = .ok (.iinc 7 1, 3) := by decide +kernel
theorem dX8_divides_91 : decode cX8_divides 91 = .ok (.goto (-75), 3) := by decide +kernel
theorem dX8_divides_94 : decode cX8_divides 94 = .ok (.aload_n 0, 1) := by decide +kernel
theorem dX8_divides_95 : decode cX8_divides 95 = .ok (.aload 5, 2) := by decide +kernel
theorem dX8_divides_97 : decode cX8_divides 97 = .ok (.iconst 0, 1) := by decide +kernel
theorem dX8_divides_98 : decode cX8_divides 98 = .ok (.invokevirtual 122, 3) := by decide +kernel
theorem dX8_divides_101 : decode cX8_divides 101 = .ok (.return_, 1) := by decide +kernel
theorem dX8_puts_0 : decode cX8_puts 0 = .ok (.iconst 0, 1) := by decide +kernel
theorem dX8_puts_1 : decode cX8_puts 1 = .ok (.istore 6, 2) := by decide +kernel
theorem dX8_puts_3 : decode cX8_puts 3 = .ok (.iload 6, 2) := by decide +kernel
theorem dX8_puts_5 : decode cX8_puts 5 = .ok (.bipush 9, 2) := by decide +kernel
theorem dX8_puts_7 : decode cX8_puts 7 = .ok (.if_icmp .ge 17, 3) := by decide +kernel
theorem dX8_puts_10 : decode cX8_puts 10 = .ok (.aload_n 0, 1) := by decide +kernel
theorem dX8_puts_11 : decode cX8_puts 11 = .ok (.getfield 35, 3) := by decide +kernel
theorem dX8_puts_14 : decode cX8_puts 14 = .ok (.iload 6, 2) := by decide +kernel
theorem dX8_puts_16 : decode cX8_puts 16 = .ok (.iconst 0, 1) := by decide +kernel
theorem dX8_puts_17 : decode cX8_puts 17 = .ok (.iastore, 1) := by decide +kernel
theorem dX8_puts_18 : decode cX8_puts 18 = .ok (.iinc 6 1, 3) := by decide +kernel
theorem dX8_puts_21 : decode cX8_puts 21 = .ok (.goto (-18), 3) := by decide +kernel
theorem dX8_puts_24 : decode cX8_puts 24 = .ok (.bipush 8, 2) := by decide +kernel
theorem dX8_puts_26 : decode cX8_puts 26 = .ok (.istore 6, 2) := by decide +kernel
theorem dX8_puts_28 : decode cX8_puts 28 = .ok (.iload 6, 2) := by decide +kernel
theorem dX8_puts_30 : decode cX8_puts 30 = .ok (.ifCond .lt 46, 3) := by decide +kernel
theorem dX8_puts_33 : decode cX8_puts 33 = .ok (.aload_n 0, 1) := by decide +kernel
theorem dX8_puts_34 : decode cX8_puts 34 = .ok (.aload_n 0, 1) := by decide +kernel
theorem dX8_puts_35 : decode cX8_puts 35 = .ok (.getfield 35, 3) := by decide +kernel
theorem dX8_puts_38 : decode cX8_puts 38 = .ok (.iconst 0, 1) := by decide +kernel
theorem dX8_puts_39 : decode cX8_puts 39 = .ok (.aload_n 3, 1) := by decide +kernel
theorem dX8_puts_40 : decode cX8_puts 40 = .ok (.iload 4, 2) := by decide +kernel
theorem dX8_puts_42 : decode cX8_puts 42 = .ok (.aload_n 0, 1) := by decide +kernel
theorem dX8_puts_43 : decode cX8_puts 43 = .ok (.getfield 35, 3) := by decide +kernel
theorem dX8_puts_46 : decode cX8_puts 46 = .ok (.invokevirtual 133, 3) := by decide +kernel
theorem dX8_puts_49 : decode cX8_puts 49 = .ok (.aload_n 0, 1) := by decide +kernel
theorem dX8_puts_50 : decode cX8_puts 50 = .ok (.getfield 35, 3) := by decide +kernel
theorem dX8_puts_53 : decode cX8_puts 53 = .ok (.iconst 0, 1) := by decide +kernel
theorem dX8_puts_54 : decode cX8_puts 54 = .ok (.aload_n 0, 1) := by decide +kernel
theorem dX8_puts_55 : decode cX8_puts 55 = .ok (.getfield 35, 3) := by decide +kernel
theorem dX8_puts_58 : decode cX8_puts 58 = .ok (.iconst 0, 1) := by decide +kernel
theorem dX8_puts_59 : decode cX8_puts 59 = .ok (.iaload, 1) := by decide +kernel
theorem dX8_puts_60 : decode cX8_puts 60 = .ok (.aload_n 1, 1) := by decide +kernel
theorem dX8_puts_61 : decode cX8_puts 61 = .ok (.iload_n 2, 1) := by decide +kernel
theorem dX8_puts_62 : decode cX8_puts 62 = .ok (.iload 6, 2) := by decide +kernel
theorem dX8_puts_64 : decode cX8_puts 64 = .ok (.iadd, 1) := by decide +kernel
theorem dX8_puts_65 : decode cX8_puts 65 = .ok (.iaload, 1) := by decide +kernel
theorem dX8_puts_66 : decode cX8_puts 66 = .ok (.invokestatic 119, 3) := by decide +kernel
theorem dX8_puts_69 : decode cX8_puts 69 = .ok (.iastore, 1) := by decide +kernel
theorem dX8_puts_70 : decode cX8_puts 70 = .ok (.iinc 6 (-1), 3) := by decide +kernel
theorem dX8_puts_73 : decode cX8_puts 73 = .ok (.goto (-45), 3) := by decide +kernel
theorem dX8_puts_76 : decode cX8_puts 76 = .ok (.aload_n 0, 1) := by decide +kernel
theorem dX8_puts_77 : decode cX8_puts 77 = .ok (.getfield 35, 3) := by decide +kernel
theorem dX8_puts_80 : decode cX8_puts 80 = .ok (.iconst 0, 1) := by decide +kernel
theorem dX8_puts_81 : decode cX8_puts 81 = .ok (.aload 5, 2) := by decide +kernel
theorem dX8_puts_83 : decode cX8_puts 83 = .ok (.iconst 0, 1) := by decide +kernel
theorem dX8_puts_84 : decode cX8_puts 84 = .ok (.bipush 9, 2) := by decide +kernel
theorem dX8_puts_86 : decode cX8_puts 86 = .ok (.invokestatic 112, 3) := by decide +kernel
theorem dX8_puts_89 : decode cX8_puts 89 = .ok (.return_, 1) := by decide +kernel
theorem dX8_turns_0 : decode cX8_turns 0 = .ok (.aload_n 1, 1) := by decide +kernel
theorem dX8_turns_1 : decode cX8_turns 1 = .ok (.iload_n 2, 1) := by decide +kernel
theorem dX8_turns_2 : decode cX8_turns 2 = .ok (.iconst 1, 1) := by decide +kernel
theorem dX8_turns_3 : decode cX8_turns 3 = .ok (.iadd, 1) := by decide +kernel
theorem dX8_turns_4 : decode cX8_turns 4 = .ok (.iaload, 1) := by decide +kernel
theorem dX8_turns_5 : decode cX8_turns 5 = .ok (.invokestatic 126, 3) := by decide +kernel
theorem dX8_turns_8 : decode cX8_turns 8 = .ok (.istore 4, 2) := by decide +kernel
theorem dX8_turns_10 : decode cX8_turns 10 = .ok (.iconst 0, 1) := by decide +kernel
theorem dX8_turns_11 : decode cX8_turns 11 = .ok (.istore 5, 2) := by decide +kernel
theorem dX8_turns_13 : decode cX8_turns 13 = .ok (.iload 5, 2) := by decide +kernel
theorem dX8_turns_15 : decode cX8_turns 15 = .ok (.bipush 9, 2) := by decide +kernel
theorem dX8_turns_17 : decode cX8_turns 17 = .ok (.if_icmp .ge 17, 3) := by decide +kernel
theorem dX8_turns_20 : decode cX8_turns 20 = .ok (.aload_n 0, 1) := by decide +kernel
theorem dX8_turns_21 : decode cX8_turns 21 = .ok (.getfield 38, 3) := by decide +kernel
theorem dX8_turns_24 : decode cX8_turns 24 = .ok (.iload 5, 2) := by decide +kernel
theorem dX8_turns_26 : decode cX8_turns 26 = .ok (.iconst 0, 1) := by decide +kernel
theorem dX8_turns_27 : decode cX8_turns 27 = .ok (.iastore, 1) := by decide +kernel
theorem dX8_turns_28 : decode cX8_turns 28 = .ok (.iinc 5 1, 3) := by decide +kernel
theorem dX8_turns_31 : decode cX8_turns 31 = .ok (.goto (-18), 3) := by decide +kernel
theorem dX8_turns_34 : decode cX8_turns 34 = .ok (.iconst 1, 1) := by decide +kernel
theorem dX8_turns_35 : decode cX8_turns 35 = .ok (.istore 5, 2) := by decide +kernel
theorem dX8_turns_37 : decode cX8_turns 37 = .ok (.iload 5, 2) := by decide +kernel
theorem dX8_turns_39 : decode cX8_turns 39 = .ok (.bipush 9, 2) := by decide +kernel
theorem dX8_turns_41 : decode cX8_turns 41 = .ok (.if_icmp .ge 61, 3) := by decide +kernel
theorem dX8_turns_44 : decode cX8_turns 44 = .ok (.aload_n 0, 1) := by decide +kernel
theorem dX8_turns_45 : decode cX8_turns 45 = .ok (.aload_n 1, 1) := by decide +kernel
theorem dX8_turns_46 : decode cX8_turns 46 = .ok (.iload_n 2, 1) := by decide +kernel
theorem dX8_turns_47 : decode cX8_turns 47 = .ok (.aload_n 0, 1) := by decide +kernel
theorem dX8_turns_48 : decode cX8_turns 48 = .ok (.getfield 38, 3) := by decide +kernel
theorem dX8_turns_51 : decode cX8_turns 51 = .ok (.iconst 0, 1) := by decide +kernel
theorem dX8_turns_52 : decode cX8_turns 52 = .ok (.aload_n 0, 1) := by decide +kernel
theorem dX8_turns_53 : decode cX8_turns 53 = .ok (.getfield 41, 3) := by decide +kernel
theorem dX8_turns_56 : decode cX8_turns 56 = .ok (.invokevirtual 137, 3) := by decide +kernel
theorem dX8_turns_59 : decode cX8_turns 59 = .ok (.iload 5, 2) := by decide +kernel
theorem dX8_turns_61 : decode cX8_turns 61 = .ok (.iconst 1, 1) := by decide +kernel
theorem dX8_turns_62 : decode cX8_turns 62 = .ok (.if_icmp .ne 7, 3) := by decide +kernel
theorem dX8_turns_65 : decode cX8_turns 65 = .ok (.iconst 1, 1) := by decide +kernel
theorem dX8_turns_66 : decode cX8_turns 66 = .ok (.goto 4, 3) := by decide +kernel
theorem dX8_turns_69 : decode cX8_turns 69 = .ok (.iconst 0, 1) := by decide +kernel
theorem dX8_turns_70 : decode cX8_turns 70 = .ok (.istore 6, 2) := by decide +kernel
theorem dX8_turns_72 : decode cX8_turns 72 = .ok (.aload_n 0, 1) := by decide +kernel
theorem dX8_turns_73 : decode cX8_turns 73 = .ok (.getfield 38, 3) := by decide +kernel
theorem dX8_turns_76 : decode cX8_turns 76 = .ok (.iload 5, 2) := by decide +kernel
theorem dX8_turns_78 : decode cX8_turns 78 = .ok (.iload 6, 2) := by decide +kernel
theorem dX8_turns_80 : decode cX8_turns 80 = .ok (.aload_n 0, 1) := by decide +kernel
theorem dX8_turns_81 : decode cX8_turns 81 = .ok (.getfield 41, 3) := by decide +kernel
theorem dX8_turns_84 : decode cX8_turns 84 = .ok (.iload 5, 2) := by decide +kernel
theorem dX8_turns_86 : decode cX8_turns 86 = .ok (.iaload, 1) := by decide +kernel
theorem dX8_turns_87 : decode cX8_turns 87 = .ok (.invokestatic 130, 3) := by decide +kernel
theorem dX8_turns_90 : decode cX8_turns 90 = .ok (.iload 4, 2) := by decide +kernel
theorem dX8_turns_92 : decode cX8_turns 92 = .ok (.invokestatic 108, 3) := by decide +kernel
theorem dX8_turns_95 : decode cX8_turns 95 = .ok (.iastore, 1) := by decide +kernel
theorem dX8_turns_96 : decode cX8_turns 96 = .ok (.iinc 5 1, 3) := by decide +kernel
theorem dX8_turns_99 : decode cX8_turns 99 = .ok (.goto (-62), 3) := by decide +kernel
theorem dX8_turns_102 : decode cX8_turns 102 = .ok (.aload_n 0, 1) := by decide +kernel
theorem dX8_turns_103 : decode cX8_turns 103 = .ok (.getfield 38, 3) := by decide +kernel
theorem dX8_turns_106 : decode cX8_turns 106 = .ok (.iconst 0, 1) := by decide +kernel
theorem dX8_turns_107 : decode cX8_turns 107 = .ok (.aload_n 3, 1) := by decide +kernel
theorem dX8_turns_108 : decode cX8_turns 108 = .ok (.iconst 0, 1) := by decide +kernel
theorem dX8_turns_109 : decode cX8_turns 109 = .ok (.bipush 9, 2) := by decide +kernel
theorem dX8_turns_111 : decode cX8_turns 111 = .ok (.invokestatic 112, 3) := by decide +kernel
theorem dX8_turns_114 : decode cX8_turns 114 = .ok (.return_, 1) := by decide +kernel
theorem dX8_makes_0 : decode cX8_makes 0 = .ok (.iconst 1, 1) := by decide +kernel
theorem dX8_makes_1 : decode cX8_makes 1 = .ok (.istore_n 3, 1) := by decide +kernel
theorem dX8_makes_2 : decode cX8_makes 2 = .ok (.iconst 0, 1) := by decide +kernel
theorem dX8_makes_3 : decode cX8_makes 3 = .ok (.istore 4, 2) := by decide +kernel
theorem dX8_makes_5 : decode cX8_makes 5 = .ok (.iload 4, 2) := by decide +kernel
theorem dX8_makes_7 : decode cX8_makes 7 = .ok (.bipush 9, 2) := by decide +kernel
theorem dX8_makes_9 : decode cX8_makes 9 = .ok (.if_icmp .ge 34, 3) := by decide +kernel
theorem dX8_makes_12 : decode cX8_makes 12 = .ok (.aload_n 0, 1) := by decide +kernel
theorem dX8_makes_13 : decode cX8_makes 13 = .ok (.getfield 44, 3) := by decide +kernel
theorem dX8_makes_16 : decode cX8_makes 16 = .ok (.iload 4, 2) := by decide +kernel
theorem dX8_makes_18 : decode cX8_makes 18 = .ok (.iload 4, 2) := by decide +kernel
theorem dX8_makes_20 : decode cX8_makes 20 = .ok (.ifCond .ne 7, 3) := by decide +kernel
theorem dX8_makes_23 : decode cX8_makes 23 = .ok (.iconst 1, 1) := by decide +kernel
theorem dX8_makes_24 : decode cX8_makes 24 = .ok (.goto 4, 3) := by decide +kernel
theorem dX8_makes_27 : decode cX8_makes 27 = .ok (.iconst 0, 1) := by decide +kernel
theorem dX8_makes_28 : decode cX8_makes 28 = .ok (.iastore, 1) := by decide +kernel
theorem dX8_makes_29 : decode cX8_makes 29 = .ok (.aload_n 0, 1) := by decide +kernel
theorem dX8_makes_30 : decode cX8_makes 30 = .ok (.getfield 47, 3) := by decide +kernel
theorem dX8_makes_33 : decode cX8_makes 33 = .ok (.iload 4, 2) := by decide +kernel
theorem dX8_makes_35 : decode cX8_makes 35 = .ok (.iconst 0, 1) := by decide +kernel
theorem dX8_makes_36 : decode cX8_makes 36 = .ok (.iastore, 1) := by decide +kernel
theorem dX8_makes_37 : decode cX8_makes 37 = .ok (.iinc 4 1, 3) := by decide +kernel
theorem dX8_makes_40 : decode cX8_makes 40 = .ok (.goto (-35), 3) := by decide +kernel
theorem dX8_makes_43 : decode cX8_makes 43 = .ok (.iconst 0, 1) := by decide +kernel
theorem dX8_makes_44 : decode cX8_makes 44 = .ok (.istore 4, 2) := by decide +kernel
theorem dX8_makes_46 : decode cX8_makes 46 = .ok (.iload 4, 2) := by decide +kernel
theorem dX8_makes_48 : decode cX8_makes 48 = .ok (.bipush 9, 2) := by decide +kernel
theorem dX8_makes_50 : decode cX8_makes 50 = .ok (.if_icmp .ge 154, 3) := by decide +kernel
theorem dX8_makes_53 : decode cX8_makes 53 = .ok (.iload 4, 2) := by decide +kernel
theorem dX8_makes_55 : decode cX8_makes 55 = .ok (.ifCond .ne 7, 3) := by decide +kernel
theorem dX8_makes_58 : decode cX8_makes 58 = .ok (.iconst 1, 1) := by decide +kernel
theorem dX8_makes_59 : decode cX8_makes 59 = .ok (.goto 9, 3) := by decide +kernel
theorem dX8_makes_62 : decode cX8_makes 62 = .ok (.iload_n 3, 1) := by decide +kernel
theorem dX8_makes_63 : decode cX8_makes 63 = .ok (.iload 4, 2) := by decide +kernel
theorem dX8_makes_65 : decode cX8_makes 65 = .ok (.invokestatic 108, 3) := by decide +kernel
theorem dX8_makes_68 : decode cX8_makes 68 = .ok (.istore_n 3, 1) := by decide +kernel
theorem dX8_makes_69 : decode cX8_makes 69 = .ok (.iload_n 1, 1) := by decide +kernel
theorem dX8_makes_70 : decode cX8_makes 70 = .ok (.bipush 101, 2) := by decide +kernel
theorem dX8_makes_72 : decode cX8_makes 72 = .ok (.if_icmp .ne 10, 3) := by decide +kernel
theorem dX8_makes_75 : decode cX8_makes 75 = .ok (.iload_n 3, 1) := by decide +kernel
theorem dX8_makes_76 : decode cX8_makes 76 = .ok (.invokestatic 126, 3) := by decide +kernel
theorem dX8_makes_79 : decode cX8_makes 79 = .ok (.goto 57, 3) := by decide +kernel
theorem dX8_makes_82 : decode cX8_makes 82 = .ok (.iload_n 1, 1) := by decide +kernel
theorem dX8_makes_83 : decode cX8_makes 83 = .ok (.bipush 113, 2) := by decide +kernel
theorem dX8_makes_85 : decode cX8_makes 85 = .ok (.if_icmp .ne 17, 3) := by decide +kernel
theorem dX8_makes_88 : decode cX8_makes 88 = .ok (.iload_n 3, 1) := by decide +kernel
theorem dX8_makes_89 : decode cX8_makes 89 = .ok (.iload 4, 2) := by decide +kernel
theorem dX8_makes_91 : decode cX8_makes 91 = .ok (.iconst 1, 1) := by decide +kernel
theorem dX8_makes_92 : decode cX8_makes 92 = .ok (.iadd, 1) := by decide +kernel
theorem dX8_makes_93 : decode cX8_makes 93 = .ok (.invokestatic 108, 3) := by decide +kernel
theorem dX8_makes_96 : decode cX8_makes 96 = .ok (.invokestatic 126, 3) := by decide +kernel
theorem dX8_makes_99 : decode cX8_makes 99 = .ok (.goto 37, 3) := by decide +kernel
theorem dX8_makes_102 : decode cX8_makes 102 = .ok (.iload 4, 2) := by decide +kernel
theorem dX8_makes_104 : decode cX8_makes 104 = .ok (.ifCond .ne 7, 3) := by decide +kernel
theorem dX8_makes_107 : decode cX8_makes 107 = .ok (.iconst 0, 1) := by decide +kernel
theorem dX8_makes_108 : decode cX8_makes 108 = .ok (.goto 28, 3) := by decide +kernel
theorem dX8_makes_111 : decode cX8_makes 111 = .ok (.iload 4, 2) := by decide +kernel
theorem dX8_makes_113 : decode cX8_makes 113 = .ok (.iconst 2, 1) := by decide +kernel
theorem dX8_makes_114 : decode cX8_makes 114 = .ok (.irem, 1) := by decide +kernel
theorem dX8_makes_115 : decode cX8_makes 115 = .ok (.iconst 1, 1) := by decide +kernel
theorem dX8_makes_116 : decode cX8_makes 116 = .ok (.if_icmp .ne 11, 3) := by decide +kernel
theorem dX8_makes_119 : decode cX8_makes 119 = .ok (.iload 4, 2) := by decide +kernel
theorem dX8_makes_121 : decode cX8_makes 121 = .ok (.invokestatic 126, 3) := by decide +kernel
theorem dX8_makes_124 : decode cX8_makes 124 = .ok (.goto 12, 3) := by decide +kernel
theorem dX8_makes_127 : decode cX8_makes 127 = .ok (.sipush 9973, 3) := by decide +kernel
theorem dX8_makes_130 : decode cX8_makes 130 = .ok (.iload 4, 2) := by decide +kernel
theorem dX8_makes_132 : decode cX8_makes 132 = .ok (.invokestatic 126, 3) := by decide +kernel
theorem dX8_makes_135 : decode cX8_makes 135 = .ok (.isub, 1) := by decide +kernel
theorem dX8_makes_136 : decode cX8_makes 136 = .ok (.istore 5, 2) := by decide +kernel
theorem dX8_makes_138 : decode cX8_makes 138 = .ok (.iconst 0, 1) := by decide +kernel
theorem dX8_makes_139 : decode cX8_makes 139 = .ok (.istore 6, 2) := by decide +kernel
theorem dX8_makes_141 : decode cX8_makes 141 = .ok (.iload 6, 2) := by decide +kernel
theorem dX8_makes_143 : decode cX8_makes 143 = .ok (.bipush 9, 2) := by decide +kernel
theorem dX8_makes_145 : decode cX8_makes 145 = .ok (.if_icmp .ge 38, 3) := by decide +kernel
theorem dX8_makes_148 : decode cX8_makes 148 = .ok (.aload_n 0, 1) := by decide +kernel
theorem dX8_makes_149 : decode cX8_makes 149 = .ok (.getfield 47, 3) := by decide +kernel
theorem dX8_makes_152 : decode cX8_makes 152 = .ok (.iload 6, 2) := by decide +kernel
theorem dX8_makes_154 : decode cX8_makes 154 = .ok (.aload_n 0, 1) := by decide +kernel
theorem dX8_makes_155 : decode cX8_makes 155 = .ok (.getfield 47, 3) := by decide +kernel
theorem dX8_makes_158 : decode cX8_makes 158 = .ok (.iload 6, 2) := by decide +kernel
theorem dX8_makes_160 : decode cX8_makes 160 = .ok (.iaload, 1) := by decide +kernel
theorem dX8_makes_161 : decode cX8_makes 161 = .ok (.iload 5, 2) := by decide +kernel
theorem dX8_makes_163 : decode cX8_makes 163 = .ok (.aload_n 0, 1) := by decide +kernel
theorem dX8_makes_164 : decode cX8_makes 164 = .ok (.getfield 44, 3) := by decide +kernel
theorem dX8_makes_167 : decode cX8_makes 167 = .ok (.iload 6, 2) := by decide +kernel
theorem dX8_makes_169 : decode cX8_makes 169 = .ok (.iaload, 1) := by decide +kernel
theorem dX8_makes_170 : decode cX8_makes 170 = .ok (.invokestatic 108, 3) := by decide +kernel
theorem dX8_makes_173 : decode cX8_makes 173 = .ok (.invokestatic 119, 3) := by decide +kernel
theorem dX8_makes_176 : decode cX8_makes 176 = .ok (.iastore, 1) := by decide +kernel
theorem dX8_makes_177 : decode cX8_makes 177 = .ok (.iinc 6 1, 3) := by decide +kernel
theorem dX8_makes_180 : decode cX8_makes 180 = .ok (.goto (-39), 3) := by decide +kernel
theorem dX8_makes_183 : decode cX8_makes 183 = .ok (.aload_n 0, 1) := by decide +kernel
theorem dX8_makes_184 : decode cX8_makes 184 = .ok (.aload_n 0, 1) := by decide +kernel
theorem dX8_makes_185 : decode cX8_makes 185 = .ok (.getfield 44, 3) := by decide +kernel
theorem dX8_makes_188 : decode cX8_makes 188 = .ok (.iconst 0, 1) := by decide +kernel
theorem dX8_makes_189 : decode cX8_makes 189 = .ok (.aload_n 2, 1) := by decide +kernel
theorem dX8_makes_190 : decode cX8_makes 190 = .ok (.iconst 0, 1) := by decide +kernel
theorem dX8_makes_191 : decode cX8_makes 191 = .ok (.aload_n 0, 1) := by decide +kernel
theorem dX8_makes_192 : decode cX8_makes 192 = .ok (.getfield 44, 3) := by decide +kernel
theorem dX8_makes_195 : decode cX8_makes 195 = .ok (.invokevirtual 133, 3) := by decide +kernel
theorem dX8_makes_198 : decode cX8_makes 198 = .ok (.iinc 4 1, 3) := by decide +kernel
theorem dX8_makes_201 : decode cX8_makes 201 = .ok (.goto (-155), 3) := by decide +kernel
theorem dX8_makes_204 : decode cX8_makes 204 = .ok (.aload_n 0, 1) := by decide +kernel
theorem dX8_makes_205 : decode cX8_makes 205 = .ok (.getfield 47, 3) := by decide +kernel
theorem dX8_makes_208 : decode cX8_makes 208 = .ok (.iconst 0, 1) := by decide +kernel
theorem dX8_makes_209 : decode cX8_makes 209 = .ok (.aload_n 2, 1) := by decide +kernel
theorem dX8_makes_210 : decode cX8_makes 210 = .ok (.iconst 0, 1) := by decide +kernel
theorem dX8_makes_211 : decode cX8_makes 211 = .ok (.bipush 9, 2) := by decide +kernel
theorem dX8_makes_213 : decode cX8_makes 213 = .ok (.invokestatic 112, 3) := by decide +kernel
theorem dX8_makes_216 : decode cX8_makes 216 = .ok (.return_, 1) := by decide +kernel
theorem dX8_isFlat_0 : decode cX8_isFlat 0 = .ok (.aload_n 0, 1) := by decide +kernel
theorem dX8_isFlat_1 : decode cX8_isFlat 1 = .ok (.iload_n 1, 1) := by decide +kernel
theorem dX8_isFlat_2 : decode cX8_isFlat 2 = .ok (.iaload, 1) := by decide +kernel
theorem dX8_isFlat_3 : decode cX8_isFlat 3 = .ok (.ifCond .ne 7, 3) := by decide +kernel
theorem dX8_isFlat_6 : decode cX8_isFlat 6 = .ok (.iconst 1, 1) := by decide +kernel
theorem dX8_isFlat_7 : decode cX8_isFlat 7 = .ok (.goto 4, 3) := by decide +kernel
theorem dX8_isFlat_10 : decode cX8_isFlat 10 = .ok (.iconst 0, 1) := by decide +kernel
theorem dX8_isFlat_11 : decode cX8_isFlat 11 = .ok (.ireturn, 1) := by decide +kernel
theorem dX8_isDelta_0 : decode cX8_isDelta 0 = .ok (.aload_n 0, 1) := by decide +kernel
theorem dX8_isDelta_1 : decode cX8_isDelta 1 = .ok (.iload_n 1, 1) := by decide +kernel
theorem dX8_isDelta_2 : decode cX8_isDelta 2 = .ok (.iaload, 1) := by decide +kernel
theorem dX8_isDelta_3 : decode cX8_isDelta 3 = .ok (.ifCond .ne 15, 3) := by decide +kernel
theorem dX8_isDelta_6 : decode cX8_isDelta 6 = .ok (.aload_n 0, 1) := by decide +kernel
theorem dX8_isDelta_7 : decode cX8_isDelta 7 = .ok (.iload_n 1, 1) := by decide +kernel
theorem dX8_isDelta_8 : decode cX8_isDelta 8 = .ok (.iconst 1, 1) := by decide +kernel
theorem dX8_isDelta_9 : decode cX8_isDelta 9 = .ok (.iadd, 1) := by decide +kernel
theorem dX8_isDelta_10 : decode cX8_isDelta 10 = .ok (.iaload, 1) := by decide +kernel
theorem dX8_isDelta_11 : decode cX8_isDelta 11 = .ok (.ifCond .eq 7, 3) := by decide +kernel
theorem dX8_isDelta_14 : decode cX8_isDelta 14 = .ok (.iconst 1, 1) := by decide +kernel
theorem dX8_isDelta_15 : decode cX8_isDelta 15 = .ok (.goto 4, 3) := by decide +kernel
theorem dX8_isDelta_18 : decode cX8_isDelta 18 = .ok (.iconst 0, 1) := by decide +kernel
theorem dX8_isDelta_19 : decode cX8_isDelta 19 = .ok (.ireturn, 1) := by decide +kernel
theorem dX8_isDigit_0 : decode cX8_isDigit 0 = .ok (.iload_n 0, 1) := by decide +kernel
theorem dX8_isDigit_1 : decode cX8_isDigit 1 = .ok (.bipush 48, 2) := by decide +kernel
theorem dX8_isDigit_3 : decode cX8_isDigit 3 = .ok (.if_icmp .lt 13, 3) := by decide +kernel
theorem dX8_isDigit_6 : decode cX8_isDigit 6 = .ok (.iload_n 0, 1) := by decide +kernel
theorem dX8_isDigit_7 : decode cX8_isDigit 7 = .ok (.bipush 57, 2) := by decide +kernel
theorem dX8_isDigit_9 : decode cX8_isDigit 9 = .ok (.if_icmp .gt 7, 3) := by decide +kernel
theorem dX8_isDigit_12 : decode cX8_isDigit 12 = .ok (.iconst 1, 1) := by decide +kernel
theorem dX8_isDigit_13 : decode cX8_isDigit 13 = .ok (.goto 4, 3) := by decide +kernel
theorem dX8_isDigit_16 : decode cX8_isDigit 16 = .ok (.iconst 0, 1) := by decide +kernel
theorem dX8_isDigit_17 : decode cX8_isDigit 17 = .ok (.ireturn, 1) := by decide +kernel
theorem dX8_sign_0 : decode cX8_sign 0 = .ok (.aload_n 0, 1) := by decide +kernel
theorem dX8_sign_1 : decode cX8_sign 1 = .ok (.getfield 140, 3) := by decide +kernel
theorem dX8_sign_4 : decode cX8_sign 4 = .ok (.aload_n 0, 1) := by decide +kernel
theorem dX8_sign_5 : decode cX8_sign 5 = .ok (.getfield 144, 3) := by decide +kernel
theorem dX8_sign_8 : decode cX8_sign 8 = .ok (.if_icmp .ge 30, 3) := by decide +kernel
theorem dX8_sign_11 : decode cX8_sign 11 = .ok (.aload_n 0, 1) := by decide +kernel
theorem dX8_sign_12 : decode cX8_sign 12 = .ok (.getfield 29, 3) := by decide +kernel
theorem dX8_sign_15 : decode cX8_sign 15 = .ok (.aload_n 0, 1) := by decide +kernel
theorem dX8_sign_16 : decode cX8_sign 16 = .ok (.getfield 140, 3) := by decide +kernel
theorem dX8_sign_19 : decode cX8_sign 19 = .ok (.iaload, 1) := by decide +kernel
theorem dX8_sign_20 : decode cX8_sign 20 = .ok (.bipush 32, 2) := by decide +kernel
theorem dX8_sign_22 : decode cX8_sign 22 = .ok (.if_icmp .ne 16, 3) := by decide +kernel
theorem dX8_sign_25 : decode cX8_sign 25 = .ok (.aload_n 0, 1) := by decide +kernel
theorem dX8_sign_26 : decode cX8_sign 26 = .ok (.dup, 1) := by decide +kernel
theorem dX8_sign_27 : decode cX8_sign 27 = .ok (.getfield 140, 3) := by decide +kernel
theorem dX8_sign_30 : decode cX8_sign 30 = .ok (.iconst 1, 1) := by decide +kernel
theorem dX8_sign_31 : decode cX8_sign 31 = .ok (.iadd, 1) := by decide +kernel
theorem dX8_sign_32 : decode cX8_sign 32 = .ok (.putfield 140, 3) := by decide +kernel
theorem dX8_sign_35 : decode cX8_sign 35 = .ok (.goto (-35), 3) := by decide +kernel
theorem dX8_sign_38 : decode cX8_sign 38 = .ok (.aload_n 0, 1) := by decide +kernel
theorem dX8_sign_39 : decode cX8_sign 39 = .ok (.getfield 140, 3) := by decide +kernel
theorem dX8_sign_42 : decode cX8_sign 42 = .ok (.aload_n 0, 1) := by decide +kernel
theorem dX8_sign_43 : decode cX8_sign 43 = .ok (.getfield 144, 3) := by decide +kernel
theorem dX8_sign_46 : decode cX8_sign 46 = .ok (.if_icmp .ge 15, 3) := by decide +kernel
theorem dX8_sign_49 : decode cX8_sign 49 = .ok (.aload_n 0, 1) := by decide +kernel
theorem dX8_sign_50 : decode cX8_sign 50 = .ok (.getfield 29, 3) := by decide +kernel
theorem dX8_sign_53 : decode cX8_sign 53 = .ok (.aload_n 0, 1) := by decide +kernel
theorem dX8_sign_54 : decode cX8_sign 54 = .ok (.getfield 140, 3) := by decide +kernel
theorem dX8_sign_57 : decode cX8_sign 57 = .ok (.iaload, 1) := by decide +kernel
theorem dX8_sign_58 : decode cX8_sign 58 = .ok (.goto 4, 3) := by decide +kernel
theorem dX8_sign_61 : decode cX8_sign 61 = .ok (.iconst (-1), 1) := by decide +kernel
theorem dX8_sign_62 : decode cX8_sign 62 = .ok (.ireturn, 1) := by decide +kernel
theorem dX8_figures_0 : decode cX8_figures 0 = .ok (.iconst 0, 1) := by decide +kernel
theorem dX8_figures_1 : decode cX8_figures 1 = .ok (.istore_n 1, 1) := by decide +kernel
theorem dX8_figures_2 : decode cX8_figures 2 = .ok (.aload_n 0, 1) := by decide +kernel
theorem dX8_figures_3 : decode cX8_figures 3 = .ok (.getfield 140, 3) := by decide +kernel
theorem dX8_figures_6 : decode cX8_figures 6 = .ok (.iload_n 1, 1) := by decide +kernel
theorem dX8_figures_7 : decode cX8_figures 7 = .ok (.iadd, 1) := by decide +kernel
theorem dX8_figures_8 : decode cX8_figures 8 = .ok (.aload_n 0, 1) := by decide +kernel
theorem dX8_figures_9 : decode cX8_figures 9 = .ok (.getfield 144, 3) := by decide +kernel
theorem dX8_figures_12 : decode cX8_figures 12 = .ok (.if_icmp .ge 26, 3) := by decide +kernel
theorem dX8_figures_15 : decode cX8_figures 15 = .ok (.aload_n 0, 1) := by decide +kernel
theorem dX8_figures_16 : decode cX8_figures 16 = .ok (.getfield 29, 3) := by decide +kernel
theorem dX8_figures_19 : decode cX8_figures 19 = .ok (.aload_n 0, 1) := by decide +kernel
theorem dX8_figures_20 : decode cX8_figures 20 = .ok (.getfield 140, 3) := by decide +kernel
theorem dX8_figures_23 : decode cX8_figures 23 = .ok (.iload_n 1, 1) := by decide +kernel
theorem dX8_figures_24 : decode cX8_figures 24 = .ok (.iadd, 1) := by decide +kernel
theorem dX8_figures_25 : decode cX8_figures 25 = .ok (.iaload, 1) := by decide +kernel
theorem dX8_figures_26 : decode cX8_figures 26 = .ok (.invokestatic 147, 3) := by decide +kernel
theorem dX8_figures_29 : decode cX8_figures 29 = .ok (.ifCond .eq 9, 3) := by decide +kernel
theorem dX8_figures_32 : decode cX8_figures 32 = .ok (.iinc 1 1, 3) := by decide +kernel
theorem dX8_figures_35 : decode cX8_figures 35 = .ok (.goto (-33), 3) := by decide +kernel
theorem dX8_figures_38 : decode cX8_figures 38 = .ok (.iload_n 1, 1) := by decide +kernel
theorem dX8_figures_39 : decode cX8_figures 39 = .ok (.ireturn, 1) := by decide +kernel
theorem dX8_numberOf_0 : decode cX8_numberOf 0 = .ok (.iconst 0, 1) := by decide +kernel
theorem dX8_numberOf_1 : decode cX8_numberOf 1 = .ok (.istore_n 2, 1) := by decide +kernel
theorem dX8_numberOf_2 : decode cX8_numberOf 2 = .ok (.iconst 0, 1) := by decide +kernel
theorem dX8_numberOf_3 : decode cX8_numberOf 3 = .ok (.istore_n 3, 1) := by decide +kernel
theorem dX8_numberOf_4 : decode cX8_numberOf 4 = .ok (.iload_n 3, 1) := by decide +kernel
theorem dX8_numberOf_5 : decode cX8_numberOf 5 = .ok (.iload_n 1, 1) := by decide +kernel
theorem dX8_numberOf_6 : decode cX8_numberOf 6 = .ok (.if_icmp .ge 29, 3) := by decide +kernel
theorem dX8_numberOf_9 : decode cX8_numberOf 9 = .ok (.bipush 10, 2) := by decide +kernel
theorem dX8_numberOf_11 : decode cX8_numberOf 11 = .ok (.iload_n 2, 1) := by decide +kernel
theorem dX8_numberOf_12 : decode cX8_numberOf 12 = .ok (.imul, 1) := by decide +kernel
theorem dX8_numberOf_13 : decode cX8_numberOf 13 = .ok (.aload_n 0, 1) := by decide +kernel
theorem dX8_numberOf_14 : decode cX8_numberOf 14 = .ok (.getfield 29, 3) := by decide +kernel
theorem dX8_numberOf_17 : decode cX8_numberOf 17 = .ok (.aload_n 0, 1) := by decide +kernel
theorem dX8_numberOf_18 : decode cX8_numberOf 18 = .ok (.getfield 140, 3) := by decide +kernel
theorem dX8_numberOf_21 : decode cX8_numberOf 21 = .ok (.iload_n 3, 1) := by decide +kernel
theorem dX8_numberOf_22 : decode cX8_numberOf 22 = .ok (.iadd, 1) := by decide +kernel
theorem dX8_numberOf_23 : decode cX8_numberOf 23 = .ok (.iaload, 1) := by decide +kernel
theorem dX8_numberOf_24 : decode cX8_numberOf 24 = .ok (.iadd, 1) := by decide +kernel
theorem dX8_numberOf_25 : decode cX8_numberOf 25 = .ok (.bipush 48, 2) := by decide +kernel
theorem dX8_numberOf_27 : decode cX8_numberOf 27 = .ok (.isub, 1) := by decide +kernel
theorem dX8_numberOf_28 : decode cX8_numberOf 28 = .ok (.istore_n 2, 1) := by decide +kernel
theorem dX8_numberOf_29 : decode cX8_numberOf 29 = .ok (.iinc 3 1, 3) := by decide +kernel
theorem dX8_numberOf_32 : decode cX8_numberOf 32 = .ok (.goto (-28), 3) := by decide +kernel
theorem dX8_numberOf_35 : decode cX8_numberOf 35 = .ok (.iload_n 2, 1) := by decide +kernel
theorem dX8_numberOf_36 : decode cX8_numberOf 36 = .ok (.ireturn, 1) := by decide +kernel
theorem dX8_sets_0 : decode cX8_sets 0 = .ok (.iconst 0, 1) := by decide +kernel
theorem dX8_sets_1 : decode cX8_sets 1 = .ok (.istore_n 3, 1) := by decide +kernel
theorem dX8_sets_2 : decode cX8_sets 2 = .ok (.iload_n 3, 1) := by decide +kernel
theorem dX8_sets_3 : decode cX8_sets 3 = .ok (.bipush 9, 2) := by decide +kernel
theorem dX8_sets_5 : decode cX8_sets 5 = .ok (.if_icmp .ge 16, 3) := by decide +kernel
theorem dX8_sets_8 : decode cX8_sets 8 = .ok (.aload_n 0, 1) := by decide +kernel
theorem dX8_sets_9 : decode cX8_sets 9 = .ok (.getfield 50, 3) := by decide +kernel
theorem dX8_sets_12 : decode cX8_sets 12 = .ok (.iload_n 3, 1) := by decide +kernel
theorem dX8_sets_13 : decode cX8_sets 13 = .ok (.iconst 0, 1) := by decide +kernel
theorem dX8_sets_14 : decode cX8_sets 14 = .ok (.iastore, 1) := by decide +kernel
theorem dX8_sets_15 : decode cX8_sets 15 = .ok (.iinc 3 1, 3) := by decide +kernel
theorem dX8_sets_18 : decode cX8_sets 18 = .ok (.goto (-16), 3) := by decide +kernel
theorem dX8_sets_21 : decode cX8_sets 21 = .ok (.aload_n 0, 1) := by decide +kernel
theorem dX8_sets_22 : decode cX8_sets 22 = .ok (.getfield 50, 3) := by decide +kernel
theorem dX8_sets_25 : decode cX8_sets 25 = .ok (.iconst 0, 1) := by decide +kernel
theorem dX8_sets_26 : decode cX8_sets 26 = .ok (.iload_n 1, 1) := by decide +kernel
theorem dX8_sets_27 : decode cX8_sets 27 = .ok (.iastore, 1) := by decide +kernel
theorem dX8_sets_28 : decode cX8_sets 28 = .ok (.aload_n 0, 1) := by decide +kernel
theorem dX8_sets_29 : decode cX8_sets 29 = .ok (.getfield 50, 3) := by decide +kernel
theorem dX8_sets_32 : decode cX8_sets 32 = .ok (.iconst 1, 1) := by decide +kernel
theorem dX8_sets_33 : decode cX8_sets 33 = .ok (.iload_n 2, 1) := by decide +kernel
theorem dX8_sets_34 : decode cX8_sets 34 = .ok (.iastore, 1) := by decide +kernel
theorem dX8_sets_35 : decode cX8_sets 35 = .ok (.return_, 1) := by decide +kernel
theorem dX8_endsPower_0 : decode cX8_endsPower 0 = .ok (.bipush 9, 2) := by decide +kernel
theorem dX8_endsPower_2 : decode cX8_endsPower 2 = .ok (.aload_n 0, 1) := by decide +kernel
theorem dX8_endsPower_3 : decode cX8_endsPower 3 = .ok (.getfield 151, 3) := by decide +kernel
theorem dX8_endsPower_6 : decode cX8_endsPower 6 = .ok (.imul, 1) := by decide +kernel
theorem dX8_endsPower_7 : decode cX8_endsPower 7 = .ok (.istore_n 1, 1) := by decide +kernel
theorem dX8_endsPower_8 : decode cX8_endsPower 8 = .ok (.aload_n 0, 1) := by decide +kernel
theorem dX8_endsPower_9 : decode cX8_endsPower 9 = .ok (.getfield 65, 3) := by decide +kernel
theorem dX8_endsPower_12 : decode cX8_endsPower 12 = .ok (.aload_n 0, 1) := by decide +kernel
theorem dX8_endsPower_13 : decode cX8_endsPower 13 = .ok (.getfield 151, 3) := by decide +kernel
theorem dX8_endsPower_16 : decode cX8_endsPower 16 = .ok (.iaload, 1) := by decide +kernel
theorem dX8_endsPower_17 : decode cX8_endsPower 17 = .ok (.istore_n 2, 1) := by decide +kernel
theorem dX8_endsPower_18 : decode cX8_endsPower 18 = .ok (.aload_n 0, 1) := by decide +kernel
theorem dX8_endsPower_19 : decode cX8_endsPower 19 = .ok (.getfield 56, 3) := by decide +kernel
theorem dX8_endsPower_22 : decode cX8_endsPower 22 = .ok (.iload_n 1, 1) := by decide +kernel
theorem dX8_endsPower_23 : decode cX8_endsPower 23 = .ok (.aload_n 0, 1) := by decide +kernel
theorem dX8_endsPower_24 : decode cX8_endsPower 24 = .ok (.getfield 59, 3) := by decide +kernel
theorem dX8_endsPower_27 : decode cX8_endsPower 27 = .ok (.iconst 0, 1) := by decide +kernel
theorem dX8_endsPower_28 : decode cX8_endsPower 28 = .ok (.bipush 9, 2) := by decide +kernel
theorem dX8_endsPower_30 : decode cX8_endsPower 30 = .ok (.invokestatic 112, 3) := by decide +kernel
theorem dX8_endsPower_33 : decode cX8_endsPower 33 = .ok (.iload_n 2, 1) := by decide +kernel
theorem dX8_endsPower_34 : decode cX8_endsPower 34 = .ok (.ifCond .ne 21, 3) := by decide +kernel
theorem dX8_endsPower_37 : decode cX8_endsPower 37 = .ok (.aload_n 0, 1) := by decide +kernel
theorem dX8_endsPower_38 : decode cX8_endsPower 38 = .ok (.getfield 50, 3) := by decide +kernel
theorem dX8_endsPower_41 : decode cX8_endsPower 41 = .ok (.iconst 0, 1) := by decide +kernel
theorem dX8_endsPower_42 : decode cX8_endsPower 42 = .ok (.aload_n 0, 1) := by decide +kernel
theorem dX8_endsPower_43 : decode cX8_endsPower 43 = .ok (.getfield 59, 3) := by decide +kernel
theorem dX8_endsPower_46 : decode cX8_endsPower 46 = .ok (.iconst 0, 1) := by decide +kernel
theorem dX8_endsPower_47 : decode cX8_endsPower 47 = .ok (.bipush 9, 2) := by decide +kernel
theorem dX8_endsPower_49 : decode cX8_endsPower 49 = .ok (.invokestatic 112, 3) := by decide +kernel
theorem dX8_endsPower_52 : decode cX8_endsPower 52 = .ok (.goto 65, 3) := by decide +kernel
theorem dX8_endsPower_55 : decode cX8_endsPower 55 = .ok (.iload_n 2, 1) := by decide +kernel
theorem dX8_endsPower_56 : decode cX8_endsPower 56 = .ok (.bipush 42, 2) := by decide +kernel
theorem dX8_endsPower_58 : decode cX8_endsPower 58 = .ok (.if_icmp .ne 24, 3) := by decide +kernel
theorem dX8_endsPower_61 : decode cX8_endsPower 61 = .ok (.aload_n 0, 1) := by decide +kernel
theorem dX8_endsPower_62 : decode cX8_endsPower 62 = .ok (.aload_n 0, 1) := by decide +kernel
theorem dX8_endsPower_63 : decode cX8_endsPower 63 = .ok (.getfield 59, 3) := by decide +kernel
theorem dX8_endsPower_66 : decode cX8_endsPower 66 = .ok (.iconst 0, 1) := by decide +kernel
theorem dX8_endsPower_67 : decode cX8_endsPower 67 = .ok (.aload_n 0, 1) := by decide +kernel
theorem dX8_endsPower_68 : decode cX8_endsPower 68 = .ok (.getfield 50, 3) := by decide +kernel
theorem dX8_endsPower_71 : decode cX8_endsPower 71 = .ok (.iconst 0, 1) := by decide +kernel
theorem dX8_endsPower_72 : decode cX8_endsPower 72 = .ok (.aload_n 0, 1) := by decide +kernel
theorem dX8_endsPower_73 : decode cX8_endsPower 73 = .ok (.getfield 59, 3) := by decide +kernel
theorem dX8_endsPower_76 : decode cX8_endsPower 76 = .ok (.invokevirtual 133, 3) := by decide +kernel
theorem dX8_endsPower_79 : decode cX8_endsPower 79 = .ok (.goto 38, 3) := by decide +kernel
theorem dX8_endsPower_82 : decode cX8_endsPower 82 = .ok (.aload_n 0, 1) := by decide +kernel
theorem dX8_endsPower_83 : decode cX8_endsPower 83 = .ok (.getfield 50, 3) := by decide +kernel
theorem dX8_endsPower_86 : decode cX8_endsPower 86 = .ok (.iconst 0, 1) := by decide +kernel
theorem dX8_endsPower_87 : decode cX8_endsPower 87 = .ok (.iaload, 1) := by decide +kernel
theorem dX8_endsPower_88 : decode cX8_endsPower 88 = .ok (.ifCond .ne 11, 3) := by decide +kernel
theorem dX8_endsPower_91 : decode cX8_endsPower 91 = .ok (.aload_n 0, 1) := by decide +kernel
theorem dX8_endsPower_92 : decode cX8_endsPower 92 = .ok (.iconst 1, 1) := by decide +kernel
theorem dX8_endsPower_93 : decode cX8_endsPower 93 = .ok (.putfield 154, 3) := by decide +kernel
theorem dX8_endsPower_96 : decode cX8_endsPower 96 = .ok (.goto 21, 3) := by decide +kernel
theorem dX8_endsPower_99 : decode cX8_endsPower 99 = .ok (.aload_n 0, 1) := by decide +kernel
theorem dX8_endsPower_100 : decode cX8_endsPower 100 = .ok (.aload_n 0, 1) := by decide +kernel
theorem dX8_endsPower_101 : decode cX8_endsPower 101 = .ok (.getfield 59, 3) := by decide +kernel
theorem dX8_endsPower_104 : decode cX8_endsPower 104 = .ok (.iconst 0, 1) := by decide +kernel
theorem dX8_endsPower_105 : decode cX8_endsPower 105 = .ok (.aload_n 0, 1) := by decide +kernel
theorem dX8_endsPower_106 : decode cX8_endsPower 106 = .ok (.getfield 50, 3) := by decide +kernel
theorem dX8_endsPower_109 : decode cX8_endsPower 109 = .ok (.iconst 0, 1) := by decide +kernel
theorem dX8_endsPower_110 : decode cX8_endsPower 110 = .ok (.aload_n 0, 1) := by decide +kernel
theorem dX8_endsPower_111 : decode cX8_endsPower 111 = .ok (.getfield 59, 3) := by decide +kernel
theorem dX8_endsPower_114 : decode cX8_endsPower 114 = .ok (.invokevirtual 158, 3) := by decide +kernel
theorem dX8_endsPower_117 : decode cX8_endsPower 117 = .ok (.aload_n 0, 1) := by decide +kernel
theorem dX8_endsPower_118 : decode cX8_endsPower 118 = .ok (.getfield 59, 3) := by decide +kernel
theorem dX8_endsPower_121 : decode cX8_endsPower 121 = .ok (.iconst 0, 1) := by decide +kernel
theorem dX8_endsPower_122 : decode cX8_endsPower 122 = .ok (.aload_n 0, 1) := by decide +kernel
theorem dX8_endsPower_123 : decode cX8_endsPower 123 = .ok (.getfield 56, 3) := by decide +kernel
theorem dX8_endsPower_126 : decode cX8_endsPower 126 = .ok (.iload_n 1, 1) := by decide +kernel
theorem dX8_endsPower_127 : decode cX8_endsPower 127 = .ok (.bipush 9, 2) := by decide +kernel
theorem dX8_endsPower_129 : decode cX8_endsPower 129 = .ok (.invokestatic 112, 3) := by decide +kernel
theorem dX8_endsPower_132 : decode cX8_endsPower 132 = .ok (.return_, 1) := by decide +kernel
theorem dX8_endsProduct_0 : decode cX8_endsProduct 0 = .ok (.aload_n 0, 1) := by decide +kernel
theorem dX8_endsProduct_1 : decode cX8_endsProduct 1 = .ok (.invokevirtual 161, 3) := by decide +kernel
theorem dX8_endsProduct_4 : decode cX8_endsProduct 4 = .ok (.bipush 9, 2) := by decide +kernel
theorem dX8_endsProduct_6 : decode cX8_endsProduct 6 = .ok (.aload_n 0, 1) := by decide +kernel
theorem dX8_endsProduct_7 : decode cX8_endsProduct 7 = .ok (.getfield 151, 3) := by decide +kernel
theorem dX8_endsProduct_10 : decode cX8_endsProduct 10 = .ok (.imul, 1) := by decide +kernel
theorem dX8_endsProduct_11 : decode cX8_endsProduct 11 = .ok (.istore_n 1, 1) := by decide +kernel
theorem dX8_endsProduct_12 : decode cX8_endsProduct 12 = .ok (.aload_n 0, 1) := by decide +kernel
theorem dX8_endsProduct_13 : decode cX8_endsProduct 13 = .ok (.getfield 62, 3) := by decide +kernel
theorem dX8_endsProduct_16 : decode cX8_endsProduct 16 = .ok (.aload_n 0, 1) := by decide +kernel
theorem dX8_endsProduct_17 : decode cX8_endsProduct 17 = .ok (.getfield 151, 3) := by decide +kernel
theorem dX8_endsProduct_20 : decode cX8_endsProduct 20 = .ok (.iaload, 1) := by decide +kernel
theorem dX8_endsProduct_21 : decode cX8_endsProduct 21 = .ok (.istore_n 2, 1) := by decide +kernel
theorem dX8_endsProduct_22 : decode cX8_endsProduct 22 = .ok (.iconst 0, 1) := by decide +kernel
theorem dX8_endsProduct_23 : decode cX8_endsProduct 23 = .ok (.istore_n 3, 1) := by decide +kernel
theorem dX8_endsProduct_24 : decode cX8_endsProduct 24 = .ok (.iload_n 3, 1) := by decide +kernel
theorem dX8_endsProduct_25 : decode cX8_endsProduct 25 = .ok (.bipush 9, 2) := by decide +kernel
theorem dX8_endsProduct_27 : decode cX8_endsProduct 27 = .ok (.if_icmp .ge 71, 3) := by decide +kernel
theorem dX8_endsProduct_30 : decode cX8_endsProduct 30 = .ok (.aload_n 0, 1) := by decide +kernel
theorem dX8_endsProduct_31 : decode cX8_endsProduct 31 = .ok (.getfield 56, 3) := by decide +kernel
theorem dX8_endsProduct_34 : decode cX8_endsProduct 34 = .ok (.iload_n 1, 1) := by decide +kernel
theorem dX8_endsProduct_35 : decode cX8_endsProduct 35 = .ok (.iload_n 3, 1) := by decide +kernel
theorem dX8_endsProduct_36 : decode cX8_endsProduct 36 = .ok (.iadd, 1) := by decide +kernel
theorem dX8_endsProduct_37 : decode cX8_endsProduct 37 = .ok (.iaload, 1) := by decide +kernel
theorem dX8_endsProduct_38 : decode cX8_endsProduct 38 = .ok (.istore 4, 2) := by decide +kernel
theorem dX8_endsProduct_40 : decode cX8_endsProduct 40 = .ok (.aload_n 0, 1) := by decide +kernel
theorem dX8_endsProduct_41 : decode cX8_endsProduct 41 = .ok (.getfield 53, 3) := by decide +kernel
theorem dX8_endsProduct_44 : decode cX8_endsProduct 44 = .ok (.iload_n 1, 1) := by decide +kernel
theorem dX8_endsProduct_45 : decode cX8_endsProduct 45 = .ok (.iload_n 3, 1) := by decide +kernel
theorem dX8_endsProduct_46 : decode cX8_endsProduct 46 = .ok (.iadd, 1) := by decide +kernel
theorem dX8_endsProduct_47 : decode cX8_endsProduct 47 = .ok (.iload_n 2, 1) := by decide +kernel
theorem dX8_endsProduct_48 : decode cX8_endsProduct 48 = .ok (.ifCond .ne 8, 3) := by decide +kernel
theorem dX8_endsProduct_51 : decode cX8_endsProduct 51 = .ok (.iload 4, 2) := by decide +kernel
theorem dX8_endsProduct_53 : decode cX8_endsProduct 53 = .ok (.goto 38, 3) := by decide +kernel
theorem dX8_endsProduct_56 : decode cX8_endsProduct 56 = .ok (.iload_n 2, 1) := by decide +kernel
theorem dX8_endsProduct_57 : decode cX8_endsProduct 57 = .ok (.bipush 43, 2) := by decide +kernel
theorem dX8_endsProduct_59 : decode cX8_endsProduct 59 = .ok (.if_icmp .ne 19, 3) := by decide +kernel
theorem dX8_endsProduct_62 : decode cX8_endsProduct 62 = .ok (.aload_n 0, 1) := by decide +kernel
theorem dX8_endsProduct_63 : decode cX8_endsProduct 63 = .ok (.getfield 53, 3) := by decide +kernel
theorem dX8_endsProduct_66 : decode cX8_endsProduct 66 = .ok (.iload_n 1, 1) := by decide +kernel
theorem dX8_endsProduct_67 : decode cX8_endsProduct 67 = .ok (.iload_n 3, 1) := by decide +kernel
theorem dX8_endsProduct_68 : decode cX8_endsProduct 68 = .ok (.iadd, 1) := by decide +kernel
theorem dX8_endsProduct_69 : decode cX8_endsProduct 69 = .ok (.iaload, 1) := by decide +kernel
theorem dX8_endsProduct_70 : decode cX8_endsProduct 70 = .ok (.iload 4, 2) := by decide +kernel
theorem dX8_endsProduct_72 : decode cX8_endsProduct 72 = .ok (.invokestatic 119, 3) := by decide +kernel
theorem dX8_endsProduct_75 : decode cX8_endsProduct 75 = .ok (.goto 16, 3) := by decide +kernel
theorem dX8_endsProduct_78 : decode cX8_endsProduct 78 = .ok (.aload_n 0, 1) := by decide +kernel
theorem dX8_endsProduct_79 : decode cX8_endsProduct 79 = .ok (.getfield 53, 3) := by decide +kernel
theorem dX8_endsProduct_82 : decode cX8_endsProduct 82 = .ok (.iload_n 1, 1) := by decide +kernel
theorem dX8_endsProduct_83 : decode cX8_endsProduct 83 = .ok (.iload_n 3, 1) := by decide +kernel
theorem dX8_endsProduct_84 : decode cX8_endsProduct 84 = .ok (.iadd, 1) := by decide +kernel
theorem dX8_endsProduct_85 : decode cX8_endsProduct 85 = .ok (.iaload, 1) := by decide +kernel
theorem dX8_endsProduct_86 : decode cX8_endsProduct 86 = .ok (.iload 4, 2) := by decide +kernel
theorem dX8_endsProduct_88 : decode cX8_endsProduct 88 = .ok (.invokestatic 130, 3) := by decide +kernel
theorem dX8_endsProduct_91 : decode cX8_endsProduct 91 = .ok (.iastore, 1) := by decide +kernel
theorem dX8_endsProduct_92 : decode cX8_endsProduct 92 = .ok (.iinc 3 1, 3) := by decide +kernel
theorem dX8_endsProduct_95 : decode cX8_endsProduct 95 = .ok (.goto (-71), 3) := by decide +kernel
theorem dX8_endsProduct_98 : decode cX8_endsProduct 98 = .ok (.return_, 1) := by decide +kernel
theorem dX8_begins_0 : decode cX8_begins 0 = .ok (.aload_n 0, 1) := by decide +kernel
theorem dX8_begins_1 : decode cX8_begins 1 = .ok (.getfield 68, 3) := by decide +kernel
theorem dX8_begins_4 : decode cX8_begins 4 = .ok (.aload_n 0, 1) := by decide +kernel
theorem dX8_begins_5 : decode cX8_begins 5 = .ok (.getfield 151, 3) := by decide +kernel
theorem dX8_begins_8 : decode cX8_begins 8 = .ok (.iload_n 1, 1) := by decide +kernel
theorem dX8_begins_9 : decode cX8_begins 9 = .ok (.iastore, 1) := by decide +kernel
theorem dX8_begins_10 : decode cX8_begins 10 = .ok (.aload_n 0, 1) := by decide +kernel
theorem dX8_begins_11 : decode cX8_begins 11 = .ok (.getfield 62, 3) := by decide +kernel
theorem dX8_begins_14 : decode cX8_begins 14 = .ok (.aload_n 0, 1) := by decide +kernel
theorem dX8_begins_15 : decode cX8_begins 15 = .ok (.getfield 151, 3) := by decide +kernel
theorem dX8_begins_18 : decode cX8_begins 18 = .ok (.iconst 0, 1) := by decide +kernel
theorem dX8_begins_19 : decode cX8_begins 19 = .ok (.iastore, 1) := by decide +kernel
theorem dX8_begins_20 : decode cX8_begins 20 = .ok (.aload_n 0, 1) := by decide +kernel
theorem dX8_begins_21 : decode cX8_begins 21 = .ok (.getfield 65, 3) := by decide +kernel
theorem dX8_begins_24 : decode cX8_begins 24 = .ok (.aload_n 0, 1) := by decide +kernel
theorem dX8_begins_25 : decode cX8_begins 25 = .ok (.getfield 151, 3) := by decide +kernel
theorem dX8_begins_28 : decode cX8_begins 28 = .ok (.iconst 0, 1) := by decide +kernel
theorem dX8_begins_29 : decode cX8_begins 29 = .ok (.iastore, 1) := by decide +kernel
theorem dX8_begins_30 : decode cX8_begins 30 = .ok (.return_, 1) := by decide +kernel
theorem dX8_closes_0 : decode cX8_closes 0 = .ok (.aload_n 0, 1) := by decide +kernel
theorem dX8_closes_1 : decode cX8_closes 1 = .ok (.invokevirtual 164, 3) := by decide +kernel
theorem dX8_closes_4 : decode cX8_closes 4 = .ok (.aload_n 0, 1) := by decide +kernel
theorem dX8_closes_5 : decode cX8_closes 5 = .ok (.getfield 53, 3) := by decide +kernel
theorem dX8_closes_8 : decode cX8_closes 8 = .ok (.bipush 9, 2) := by decide +kernel
theorem dX8_closes_10 : decode cX8_closes 10 = .ok (.aload_n 0, 1) := by decide +kernel
theorem dX8_closes_11 : decode cX8_closes 11 = .ok (.getfield 151, 3) := by decide +kernel
theorem dX8_closes_14 : decode cX8_closes 14 = .ok (.imul, 1) := by decide +kernel
theorem dX8_closes_15 : decode cX8_closes 15 = .ok (.aload_n 0, 1) := by decide +kernel
theorem dX8_closes_16 : decode cX8_closes 16 = .ok (.getfield 50, 3) := by decide +kernel
theorem dX8_closes_19 : decode cX8_closes 19 = .ok (.iconst 0, 1) := by decide +kernel
theorem dX8_closes_20 : decode cX8_closes 20 = .ok (.bipush 9, 2) := by decide +kernel
theorem dX8_closes_22 : decode cX8_closes 22 = .ok (.invokestatic 112, 3) := by decide +kernel
theorem dX8_closes_25 : decode cX8_closes 25 = .ok (.aload_n 0, 1) := by decide +kernel
theorem dX8_closes_26 : decode cX8_closes 26 = .ok (.getfield 68, 3) := by decide +kernel
theorem dX8_closes_29 : decode cX8_closes 29 = .ok (.aload_n 0, 1) := by decide +kernel
theorem dX8_closes_30 : decode cX8_closes 30 = .ok (.getfield 151, 3) := by decide +kernel
theorem dX8_closes_33 : decode cX8_closes 33 = .ok (.iaload, 1) := by decide +kernel
theorem dX8_closes_34 : decode cX8_closes 34 = .ok (.istore_n 1, 1) := by decide +kernel
theorem dX8_closes_35 : decode cX8_closes 35 = .ok (.aload_n 0, 1) := by decide +kernel
theorem dX8_closes_36 : decode cX8_closes 36 = .ok (.dup, 1) := by decide +kernel
theorem dX8_closes_37 : decode cX8_closes 37 = .ok (.getfield 151, 3) := by decide +kernel
theorem dX8_closes_40 : decode cX8_closes 40 = .ok (.iconst 1, 1) := by decide +kernel
theorem dX8_closes_41 : decode cX8_closes 41 = .ok (.isub, 1) := by decide +kernel
theorem dX8_closes_42 : decode cX8_closes 42 = .ok (.putfield 151, 3) := by decide +kernel
theorem dX8_closes_45 : decode cX8_closes 45 = .ok (.iload_n 1, 1) := by decide +kernel
theorem dX8_closes_46 : decode cX8_closes 46 = .ok (.bipush 105, 2) := by decide +kernel
theorem dX8_closes_48 : decode cX8_closes 48 = .ok (.if_icmp .ne 38, 3) := by decide +kernel
theorem dX8_closes_51 : decode cX8_closes 51 = .ok (.aload_n 0, 1) := by decide +kernel
theorem dX8_closes_52 : decode cX8_closes 52 = .ok (.getfield 50, 3) := by decide +kernel
theorem dX8_closes_55 : decode cX8_closes 55 = .ok (.iconst 0, 1) := by decide +kernel
theorem dX8_closes_56 : decode cX8_closes 56 = .ok (.invokestatic 167, 3) := by decide +kernel
theorem dX8_closes_59 : decode cX8_closes 59 = .ok (.ifCond .eq 19, 3) := by decide +kernel
theorem dX8_closes_62 : decode cX8_closes 62 = .ok (.aload_n 0, 1) := by decide +kernel
theorem dX8_closes_63 : decode cX8_closes 63 = .ok (.aload_n 0, 1) := by decide +kernel
theorem dX8_closes_64 : decode cX8_closes 64 = .ok (.getfield 50, 3) := by decide +kernel
theorem dX8_closes_67 : decode cX8_closes 67 = .ok (.iconst 0, 1) := by decide +kernel
theorem dX8_closes_68 : decode cX8_closes 68 = .ok (.aload_n 0, 1) := by decide +kernel
theorem dX8_closes_69 : decode cX8_closes 69 = .ok (.getfield 50, 3) := by decide +kernel
theorem dX8_closes_72 : decode cX8_closes 72 = .ok (.invokevirtual 171, 3) := by decide +kernel
theorem dX8_closes_75 : decode cX8_closes 75 = .ok (.goto 43, 3) := by decide +kernel
theorem dX8_closes_78 : decode cX8_closes 78 = .ok (.aload_n 0, 1) := by decide +kernel
theorem dX8_closes_79 : decode cX8_closes 79 = .ok (.iconst 1, 1) := by decide +kernel
theorem dX8_closes_80 : decode cX8_closes 80 = .ok (.putfield 154, 3) := by decide +kernel
theorem dX8_closes_83 : decode cX8_closes 83 = .ok (.goto 35, 3) := by decide +kernel
theorem dX8_closes_86 : decode cX8_closes 86 = .ok (.iload_n 1, 1) := by decide +kernel
theorem dX8_closes_87 : decode cX8_closes 87 = .ok (.ifCond .eq 31, 3) := by decide +kernel
theorem dX8_closes_90 : decode cX8_closes 90 = .ok (.aload_n 0, 1) := by decide +kernel
theorem dX8_closes_91 : decode cX8_closes 91 = .ok (.getfield 50, 3) := by decide +kernel
theorem dX8_closes_94 : decode cX8_closes 94 = .ok (.iconst 0, 1) := by decide +kernel
theorem dX8_closes_95 : decode cX8_closes 95 = .ok (.invokestatic 175, 3) := by decide +kernel
theorem dX8_closes_98 : decode cX8_closes 98 = .ok (.ifCond .eq 15, 3) := by decide +kernel
theorem dX8_closes_101 : decode cX8_closes 101 = .ok (.aload_n 0, 1) := by decide +kernel
theorem dX8_closes_102 : decode cX8_closes 102 = .ok (.iload_n 1, 1) := by decide +kernel
theorem dX8_closes_103 : decode cX8_closes 103 = .ok (.aload_n 0, 1) := by decide +kernel
theorem dX8_closes_104 : decode cX8_closes 104 = .ok (.getfield 50, 3) := by decide +kernel
theorem dX8_closes_107 : decode cX8_closes 107 = .ok (.invokevirtual 178, 3) := by decide +kernel
theorem dX8_closes_110 : decode cX8_closes 110 = .ok (.goto 8, 3) := by decide +kernel
theorem dX8_closes_113 : decode cX8_closes 113 = .ok (.aload_n 0, 1) := by decide +kernel
theorem dX8_closes_114 : decode cX8_closes 114 = .ok (.iconst 1, 1) := by decide +kernel
theorem dX8_closes_115 : decode cX8_closes 115 = .ok (.putfield 154, 3) := by decide +kernel
theorem dX8_closes_118 : decode cX8_closes 118 = .ok (.return_, 1) := by decide +kernel
theorem dX8_raisesThing_0 : decode cX8_raisesThing 0 = .ok (.aload_n 0, 1) := by decide +kernel
theorem dX8_raisesThing_1 : decode cX8_raisesThing 1 = .ok (.invokevirtual 182, 3) := by decide +kernel
theorem dX8_raisesThing_4 : decode cX8_raisesThing 4 = .ok (.iconst 0, 1) := by decide +kernel
theorem dX8_raisesThing_5 : decode cX8_raisesThing 5 = .ok (.istore_n 2, 1) := by decide +kernel
theorem dX8_raisesThing_6 : decode cX8_raisesThing 6 = .ok (.iload_n 2, 1) := by decide +kernel
theorem dX8_raisesThing_7 : decode cX8_raisesThing 7 = .ok (.iload_n 1, 1) := by decide +kernel
theorem dX8_raisesThing_8 : decode cX8_raisesThing 8 = .ok (.if_icmp .ge 27, 3) := by decide +kernel
theorem dX8_raisesThing_11 : decode cX8_raisesThing 11 = .ok (.aload_n 0, 1) := by decide +kernel
theorem dX8_raisesThing_12 : decode cX8_raisesThing 12 = .ok (.aload_n 0, 1) := by decide +kernel
theorem dX8_raisesThing_13 : decode cX8_raisesThing 13 = .ok (.getfield 35, 3) := by decide +kernel
theorem dX8_raisesThing_16 : decode cX8_raisesThing 16 = .ok (.iconst 0, 1) := by decide +kernel
theorem dX8_raisesThing_17 : decode cX8_raisesThing 17 = .ok (.aload_n 0, 1) := by decide +kernel
theorem dX8_raisesThing_18 : decode cX8_raisesThing 18 = .ok (.getfield 50, 3) := by decide +kernel
theorem dX8_raisesThing_21 : decode cX8_raisesThing 21 = .ok (.iconst 0, 1) := by decide +kernel
theorem dX8_raisesThing_22 : decode cX8_raisesThing 22 = .ok (.aload_n 0, 1) := by decide +kernel
theorem dX8_raisesThing_23 : decode cX8_raisesThing 23 = .ok (.getfield 35, 3) := by decide +kernel
theorem dX8_raisesThing_26 : decode cX8_raisesThing 26 = .ok (.invokevirtual 133, 3) := by decide +kernel
theorem dX8_raisesThing_29 : decode cX8_raisesThing 29 = .ok (.iinc 2 1, 3) := by decide +kernel
theorem dX8_raisesThing_32 : decode cX8_raisesThing 32 = .ok (.goto (-26), 3) := by decide +kernel
theorem dX8_raisesThing_35 : decode cX8_raisesThing 35 = .ok (.aload_n 0, 1) := by decide +kernel
theorem dX8_raisesThing_36 : decode cX8_raisesThing 36 = .ok (.getfield 35, 3) := by decide +kernel
theorem dX8_raisesThing_39 : decode cX8_raisesThing 39 = .ok (.iconst 0, 1) := by decide +kernel
theorem dX8_raisesThing_40 : decode cX8_raisesThing 40 = .ok (.aload_n 0, 1) := by decide +kernel
theorem dX8_raisesThing_41 : decode cX8_raisesThing 41 = .ok (.getfield 50, 3) := by decide +kernel
theorem dX8_raisesThing_44 : decode cX8_raisesThing 44 = .ok (.iconst 0, 1) := by decide +kernel
theorem dX8_raisesThing_45 : decode cX8_raisesThing 45 = .ok (.bipush 9, 2) := by decide +kernel
theorem dX8_raisesThing_47 : decode cX8_raisesThing 47 = .ok (.invokestatic 112, 3) := by decide +kernel
theorem dX8_raisesThing_50 : decode cX8_raisesThing 50 = .ok (.return_, 1) := by decide +kernel
theorem dX8_sofarOne_0 : decode cX8_sofarOne 0 = .ok (.iconst 0, 1) := by decide +kernel
theorem dX8_sofarOne_1 : decode cX8_sofarOne 1 = .ok (.istore_n 1, 1) := by decide +kernel
theorem dX8_sofarOne_2 : decode cX8_sofarOne 2 = .ok (.iload_n 1, 1) := by decide +kernel
theorem dX8_sofarOne_3 : decode cX8_sofarOne 3 = .ok (.bipush 9, 2) := by decide +kernel
theorem dX8_sofarOne_5 : decode cX8_sofarOne 5 = .ok (.if_icmp .ge 24, 3) := by decide +kernel
theorem dX8_sofarOne_8 : decode cX8_sofarOne 8 = .ok (.aload_n 0, 1) := by decide +kernel
theorem dX8_sofarOne_9 : decode cX8_sofarOne 9 = .ok (.getfield 35, 3) := by decide +kernel
theorem dX8_sofarOne_12 : decode cX8_sofarOne 12 = .ok (.iload_n 1, 1) := by decide +kernel
theorem dX8_sofarOne_13 : decode cX8_sofarOne 13 = .ok (.iload_n 1, 1) := by decide +kernel
theorem dX8_sofarOne_14 : decode cX8_sofarOne 14 = .ok (.ifCond .ne 7, 3) := by decide +kernel
theorem dX8_sofarOne_17 : decode cX8_sofarOne 17 = .ok (.iconst 1, 1) := by decide +kernel
theorem dX8_sofarOne_18 : decode cX8_sofarOne 18 = .ok (.goto 4, 3) := by decide +kernel
theorem dX8_sofarOne_21 : decode cX8_sofarOne 21 = .ok (.iconst 0, 1) := by decide +kernel
theorem dX8_sofarOne_22 : decode cX8_sofarOne 22 = .ok (.iastore, 1) := by decide +kernel
theorem dX8_sofarOne_23 : decode cX8_sofarOne 23 = .ok (.iinc 1 1, 3) := by decide +kernel
theorem dX8_sofarOne_26 : decode cX8_sofarOne 26 = .ok (.goto (-24), 3) := by decide +kernel
theorem dX8_sofarOne_29 : decode cX8_sofarOne 29 = .ok (.return_, 1) := by decide +kernel
theorem dX8_isLetter_0 : decode cX8_isLetter 0 = .ok (.iload_n 0, 1) := by decide +kernel
theorem dX8_isLetter_1 : decode cX8_isLetter 1 = .ok (.bipush 101, 2) := by decide +kernel
theorem dX8_isLetter_3 : decode cX8_isLetter 3 = .ok (.if_icmp .eq 21, 3) := by decide +kernel
theorem dX8_isLetter_6 : decode cX8_isLetter 6 = .ok (.iload_n 0, 1) := by decide +kernel
theorem dX8_isLetter_7 : decode cX8_isLetter 7 = .ok (.bipush 113, 2) := by decide +kernel
theorem dX8_isLetter_9 : decode cX8_isLetter 9 = .ok (.if_icmp .eq 15, 3) := by decide +kernel
theorem dX8_isLetter_12 : decode cX8_isLetter 12 = .ok (.iload_n 0, 1) := by decide +kernel
theorem dX8_isLetter_13 : decode cX8_isLetter 13 = .ok (.bipush 108, 2) := by decide +kernel
theorem dX8_isLetter_15 : decode cX8_isLetter 15 = .ok (.if_icmp .eq 9, 3) := by decide +kernel
theorem dX8_isLetter_18 : decode cX8_isLetter 18 = .ok (.iload_n 0, 1) := by decide +kernel
theorem dX8_isLetter_19 : decode cX8_isLetter 19 = .ok (.bipush 105, 2) := by decide +kernel
theorem dX8_isLetter_21 : decode cX8_isLetter 21 = .ok (.if_icmp .ne 7, 3) := by decide +kernel
theorem dX8_isLetter_24 : decode cX8_isLetter 24 = .ok (.iconst 1, 1) := by decide +kernel
theorem dX8_isLetter_25 : decode cX8_isLetter 25 = .ok (.goto 4, 3) := by decide +kernel
theorem dX8_isLetter_28 : decode cX8_isLetter 28 = .ok (.iconst 0, 1) := by decide +kernel
theorem dX8_isLetter_29 : decode cX8_isLetter 29 = .ok (.ireturn, 1) := by decide +kernel
theorem dX8_readsThing_0 : decode cX8_readsThing 0 = .ok (.iload_n 1, 1) := by decide +kernel
theorem dX8_readsThing_1 : decode cX8_readsThing 1 = .ok (.invokestatic 147, 3) := by decide +kernel
theorem dX8_readsThing_4 : decode cX8_readsThing 4 = .ok (.ifCond .eq 48, 3) := by decide +kernel
theorem dX8_readsThing_7 : decode cX8_readsThing 7 = .ok (.aload_n 0, 1) := by decide +kernel
theorem dX8_readsThing_8 : decode cX8_readsThing 8 = .ok (.invokevirtual 185, 3) := by decide +kernel
theorem dX8_readsThing_11 : decode cX8_readsThing 11 = .ok (.istore_n 2, 1) := by decide +kernel
theorem dX8_readsThing_12 : decode cX8_readsThing 12 = .ok (.iload_n 2, 1) := by decide +kernel
theorem dX8_readsThing_13 : decode cX8_readsThing 13 = .ok (.iconst 4, 1) := by decide +kernel
theorem dX8_readsThing_14 : decode cX8_readsThing 14 = .ok (.if_icmp .gt 14, 3) := by decide +kernel
theorem dX8_readsThing_17 : decode cX8_readsThing 17 = .ok (.aload_n 0, 1) := by decide +kernel
theorem dX8_readsThing_18 : decode cX8_readsThing 18 = .ok (.iload_n 2, 1) := by decide +kernel
theorem dX8_readsThing_19 : decode cX8_readsThing 19 = .ok (.invokevirtual 189, 3) := by decide +kernel
theorem dX8_readsThing_22 : decode cX8_readsThing 22 = .ok (.sipush 9973, 3) := by decide +kernel
theorem dX8_readsThing_25 : decode cX8_readsThing 25 = .ok (.if_icmp .lt 5, 3) := by decide +kernel
theorem dX8_readsThing_28 : decode cX8_readsThing 28 = .ok (.iconst (-1), 1) := by decide +kernel
theorem dX8_readsThing_29 : decode cX8_readsThing 29 = .ok (.ireturn, 1) := by decide +kernel
theorem dX8_readsThing_30 : decode cX8_readsThing 30 = .ok (.aload_n 0, 1) := by decide +kernel
theorem dX8_readsThing_31 : decode cX8_readsThing 31 = .ok (.aload_n 0, 1) := by decide +kernel
theorem dX8_readsThing_32 : decode cX8_readsThing 32 = .ok (.iload_n 2, 1) := by decide +kernel
theorem dX8_readsThing_33 : decode cX8_readsThing 33 = .ok (.invokevirtual 189, 3) := by decide +kernel
theorem dX8_readsThing_36 : decode cX8_readsThing 36 = .ok (.iconst 0, 1) := by decide +kernel
theorem dX8_readsThing_37 : decode cX8_readsThing 37 = .ok (.invokevirtual 192, 3) := by decide +kernel
theorem dX8_readsThing_40 : decode cX8_readsThing 40 = .ok (.aload_n 0, 1) := by decide +kernel
theorem dX8_readsThing_41 : decode cX8_readsThing 41 = .ok (.dup, 1) := by decide +kernel
theorem dX8_readsThing_42 : decode cX8_readsThing 42 = .ok (.getfield 140, 3) := by decide +kernel
theorem dX8_readsThing_45 : decode cX8_readsThing 45 = .ok (.iload_n 2, 1) := by decide +kernel
theorem dX8_readsThing_46 : decode cX8_readsThing 46 = .ok (.iadd, 1) := by decide +kernel
theorem dX8_readsThing_47 : decode cX8_readsThing 47 = .ok (.putfield 140, 3) := by decide +kernel
theorem dX8_readsThing_50 : decode cX8_readsThing 50 = .ok (.iconst 1, 1) := by decide +kernel
theorem dX8_readsThing_51 : decode cX8_readsThing 51 = .ok (.ireturn, 1) := by decide +kernel
theorem dX8_readsThing_52 : decode cX8_readsThing 52 = .ok (.iload_n 1, 1) := by decide +kernel
theorem dX8_readsThing_53 : decode cX8_readsThing 53 = .ok (.bipush 116, 2) := by decide +kernel
theorem dX8_readsThing_55 : decode cX8_readsThing 55 = .ok (.if_icmp .ne 21, 3) := by decide +kernel
theorem dX8_readsThing_58 : decode cX8_readsThing 58 = .ok (.aload_n 0, 1) := by decide +kernel
theorem dX8_readsThing_59 : decode cX8_readsThing 59 = .ok (.iconst 0, 1) := by decide +kernel
theorem dX8_readsThing_60 : decode cX8_readsThing 60 = .ok (.iconst 1, 1) := by decide +kernel
theorem dX8_readsThing_61 : decode cX8_readsThing 61 = .ok (.invokevirtual 192, 3) := by decide +kernel
theorem dX8_readsThing_64 : decode cX8_readsThing 64 = .ok (.aload_n 0, 1) := by decide +kernel
theorem dX8_readsThing_65 : decode cX8_readsThing 65 = .ok (.dup, 1) := by decide +kernel
theorem dX8_readsThing_66 : decode cX8_readsThing 66 = .ok (.getfield 140, 3) := by decide +kernel
theorem dX8_readsThing_69 : decode cX8_readsThing 69 = .ok (.iconst 1, 1) := by decide +kernel
theorem dX8_readsThing_70 : decode cX8_readsThing 70 = .ok (.iadd, 1) := by decide +kernel
theorem dX8_readsThing_71 : decode cX8_readsThing 71 = .ok (.putfield 140, 3) := by decide +kernel
theorem dX8_readsThing_74 : decode cX8_readsThing 74 = .ok (.iconst 1, 1) := by decide +kernel
theorem dX8_readsThing_75 : decode cX8_readsThing 75 = .ok (.ireturn, 1) := by decide +kernel
theorem dX8_readsThing_76 : decode cX8_readsThing 76 = .ok (.iload_n 1, 1) := by decide +kernel
theorem dX8_readsThing_77 : decode cX8_readsThing 77 = .ok (.invokestatic 196, 3) := by decide +kernel
theorem dX8_readsThing_80 : decode cX8_readsThing 80 = .ok (.ifCond .eq 20, 3) := by decide +kernel
theorem dX8_readsThing_83 : decode cX8_readsThing 83 = .ok (.aload_n 0, 1) := by decide +kernel
theorem dX8_readsThing_84 : decode cX8_readsThing 84 = .ok (.iload_n 1, 1) := by decide +kernel
theorem dX8_readsThing_85 : decode cX8_readsThing 85 = .ok (.putfield 199, 3) := by decide +kernel
theorem dX8_readsThing_88 : decode cX8_readsThing 88 = .ok (.aload_n 0, 1) := by decide +kernel
theorem dX8_readsThing_89 : decode cX8_readsThing 89 = .ok (.dup, 1) := by decide +kernel
theorem dX8_readsThing_90 : decode cX8_readsThing 90 = .ok (.getfield 140, 3) := by decide +kernel
theorem dX8_readsThing_93 : decode cX8_readsThing 93 = .ok (.iconst 1, 1) := by decide +kernel
theorem dX8_readsThing_94 : decode cX8_readsThing 94 = .ok (.iadd, 1) := by decide +kernel
theorem dX8_readsThing_95 : decode cX8_readsThing 95 = .ok (.putfield 140, 3) := by decide +kernel
theorem dX8_readsThing_98 : decode cX8_readsThing 98 = .ok (.iconst 3, 1) := by decide +kernel
theorem dX8_readsThing_99 : decode cX8_readsThing 99 = .ok (.ireturn, 1) := by decide +kernel
theorem dX8_readsThing_100 : decode cX8_readsThing 100 = .ok (.aload_n 0, 1) := by decide +kernel
theorem dX8_readsThing_101 : decode cX8_readsThing 101 = .ok (.iconst 0, 1) := by decide +kernel
theorem dX8_readsThing_102 : decode cX8_readsThing 102 = .ok (.putfield 199, 3) := by decide +kernel
theorem dX8_readsThing_105 : decode cX8_readsThing 105 = .ok (.aload_n 0, 1) := by decide +kernel
theorem dX8_readsThing_106 : decode cX8_readsThing 106 = .ok (.iload_n 1, 1) := by decide +kernel
theorem dX8_readsThing_107 : decode cX8_readsThing 107 = .ok (.invokevirtual 202, 3) := by decide +kernel
theorem dX8_readsThing_110 : decode cX8_readsThing 110 = .ok (.ireturn, 1) := by decide +kernel
theorem dX8_readsBracket_0 : decode cX8_readsBracket 0 = .ok (.iload_n 1, 1) := by decide +kernel
theorem dX8_readsBracket_1 : decode cX8_readsBracket 1 = .ok (.bipush 40, 2) := by decide +kernel
theorem dX8_readsBracket_3 : decode cX8_readsBracket 3 = .ok (.if_icmp .ne 12, 3) := by decide +kernel
theorem dX8_readsBracket_6 : decode cX8_readsBracket 6 = .ok (.aload_n 0, 1) := by decide +kernel
theorem dX8_readsBracket_7 : decode cX8_readsBracket 7 = .ok (.getfield 151, 3) := by decide +kernel
theorem dX8_readsBracket_10 : decode cX8_readsBracket 10 = .ok (.bipush 6, 2) := by decide +kernel
theorem dX8_readsBracket_12 : decode cX8_readsBracket 12 = .ok (.if_icmp .ne 5, 3) := by decide +kernel
theorem dX8_readsBracket_15 : decode cX8_readsBracket 15 = .ok (.iconst (-1), 1) := by decide +kernel
theorem dX8_readsBracket_16 : decode cX8_readsBracket 16 = .ok (.ireturn, 1) := by decide +kernel
theorem dX8_readsBracket_17 : decode cX8_readsBracket 17 = .ok (.aload_n 0, 1) := by decide +kernel
theorem dX8_readsBracket_18 : decode cX8_readsBracket 18 = .ok (.dup, 1) := by decide +kernel
theorem dX8_readsBracket_19 : decode cX8_readsBracket 19 = .ok (.getfield 151, 3) := by decide +kernel
theorem dX8_readsBracket_22 : decode cX8_readsBracket 22 = .ok (.iconst 1, 1) := by decide +kernel
theorem dX8_readsBracket_23 : decode cX8_readsBracket 23 = .ok (.iadd, 1) := by decide +kernel
theorem dX8_readsBracket_24 : decode cX8_readsBracket 24 = .ok (.putfield 151, 3) := by decide +kernel
theorem dX8_readsBracket_27 : decode cX8_readsBracket 27 = .ok (.aload_n 0, 1) := by decide +kernel
theorem dX8_readsBracket_28 : decode cX8_readsBracket 28 = .ok (.aload_n 0, 1) := by decide +kernel
theorem dX8_readsBracket_29 : decode cX8_readsBracket 29 = .ok (.getfield 199, 3) := by decide +kernel
theorem dX8_readsBracket_32 : decode cX8_readsBracket 32 = .ok (.invokevirtual 205, 3) := by decide +kernel
theorem dX8_readsBracket_35 : decode cX8_readsBracket 35 = .ok (.aload_n 0, 1) := by decide +kernel
theorem dX8_readsBracket_36 : decode cX8_readsBracket 36 = .ok (.dup, 1) := by decide +kernel
theorem dX8_readsBracket_37 : decode cX8_readsBracket 37 = .ok (.getfield 140, 3) := by decide +kernel
theorem dX8_readsBracket_40 : decode cX8_readsBracket 40 = .ok (.iconst 1, 1) := by decide +kernel
theorem dX8_readsBracket_41 : decode cX8_readsBracket 41 = .ok (.iadd, 1) := by decide +kernel
theorem dX8_readsBracket_42 : decode cX8_readsBracket 42 = .ok (.putfield 140, 3) := by decide +kernel
theorem dX8_readsBracket_45 : decode cX8_readsBracket 45 = .ok (.iconst 0, 1) := by decide +kernel
theorem dX8_readsBracket_46 : decode cX8_readsBracket 46 = .ok (.ireturn, 1) := by decide +kernel
theorem dX8_readsTimes_0 : decode cX8_readsTimes 0 = .ok (.iload_n 1, 1) := by decide +kernel
theorem dX8_readsTimes_1 : decode cX8_readsTimes 1 = .ok (.invokestatic 147, 3) := by decide +kernel
theorem dX8_readsTimes_4 : decode cX8_readsTimes 4 = .ok (.ifCond .eq 11, 3) := by decide +kernel
theorem dX8_readsTimes_7 : decode cX8_readsTimes 7 = .ok (.aload_n 0, 1) := by decide +kernel
theorem dX8_readsTimes_8 : decode cX8_readsTimes 8 = .ok (.invokevirtual 185, 3) := by decide +kernel
theorem dX8_readsTimes_11 : decode cX8_readsTimes 11 = .ok (.iconst 1, 1) := by decide +kernel
theorem dX8_readsTimes_12 : decode cX8_readsTimes 12 = .ok (.if_icmp .le 5, 3) := by decide +kernel
theorem dX8_readsTimes_15 : decode cX8_readsTimes 15 = .ok (.iconst (-1), 1) := by decide +kernel
theorem dX8_readsTimes_16 : decode cX8_readsTimes 16 = .ok (.ireturn, 1) := by decide +kernel
theorem dX8_readsTimes_17 : decode cX8_readsTimes 17 = .ok (.aload_n 0, 1) := by decide +kernel
theorem dX8_readsTimes_18 : decode cX8_readsTimes 18 = .ok (.iload_n 1, 1) := by decide +kernel
theorem dX8_readsTimes_19 : decode cX8_readsTimes 19 = .ok (.bipush 48, 2) := by decide +kernel
theorem dX8_readsTimes_21 : decode cX8_readsTimes 21 = .ok (.isub, 1) := by decide +kernel
theorem dX8_readsTimes_22 : decode cX8_readsTimes 22 = .ok (.invokevirtual 209, 3) := by decide +kernel
theorem dX8_readsTimes_25 : decode cX8_readsTimes 25 = .ok (.aload_n 0, 1) := by decide +kernel
theorem dX8_readsTimes_26 : decode cX8_readsTimes 26 = .ok (.dup, 1) := by decide +kernel
theorem dX8_readsTimes_27 : decode cX8_readsTimes 27 = .ok (.getfield 140, 3) := by decide +kernel
theorem dX8_readsTimes_30 : decode cX8_readsTimes 30 = .ok (.iconst 1, 1) := by decide +kernel
theorem dX8_readsTimes_31 : decode cX8_readsTimes 31 = .ok (.iadd, 1) := by decide +kernel
theorem dX8_readsTimes_32 : decode cX8_readsTimes 32 = .ok (.putfield 140, 3) := by decide +kernel
theorem dX8_readsTimes_35 : decode cX8_readsTimes 35 = .ok (.iconst 2, 1) := by decide +kernel
theorem dX8_readsTimes_36 : decode cX8_readsTimes 36 = .ok (.ireturn, 1) := by decide +kernel
theorem dX8_readsOn_0 : decode cX8_readsOn 0 = .ok (.iload_n 1, 1) := by decide +kernel
theorem dX8_readsOn_1 : decode cX8_readsOn 1 = .ok (.lookupswitch 176 #[(41, 151), (42, 89), (43, 115), (45, 115), (47, 89), (94, 59)], 59) := by decide +kernel
theorem dX8_readsOn_60 : decode cX8_readsOn 60 = .ok (.aload_n 0, 1) := by decide +kernel
theorem dX8_readsOn_61 : decode cX8_readsOn 61 = .ok (.dup, 1) := by decide +kernel
theorem dX8_readsOn_62 : decode cX8_readsOn 62 = .ok (.getfield 140, 3) := by decide +kernel
theorem dX8_readsOn_65 : decode cX8_readsOn 65 = .ok (.iload_n 2, 1) := by decide +kernel
theorem dX8_readsOn_66 : decode cX8_readsOn 66 = .ok (.iconst 1, 1) := by decide +kernel
theorem dX8_readsOn_67 : decode cX8_readsOn 67 = .ok (.if_icmp .ne 7, 3) := by decide +kernel
theorem dX8_readsOn_70 : decode cX8_readsOn 70 = .ok (.iconst 1, 1) := by decide +kernel
theorem dX8_readsOn_71 : decode cX8_readsOn 71 = .ok (.goto 4, 3) := by decide +kernel
theorem dX8_readsOn_74 : decode cX8_readsOn 74 = .ok (.iconst 0, 1) := by decide +kernel
theorem dX8_readsOn_75 : decode cX8_readsOn 75 = .ok (.iadd, 1) := by decide +kernel
theorem dX8_readsOn_76 : decode cX8_readsOn 76 = .ok (.putfield 140, 3) := by decide +kernel
theorem dX8_readsOn_79 : decode cX8_readsOn 79 = .ok (.iload_n 2, 1) := by decide +kernel
theorem dX8_readsOn_80 : decode cX8_readsOn 80 = .ok (.iconst 1, 1) := by decide +kernel
theorem dX8_readsOn_81 : decode cX8_readsOn 81 = .ok (.if_icmp .ne 7, 3) := by decide +kernel
theorem dX8_readsOn_84 : decode cX8_readsOn 84 = .ok (.iconst 4, 1) := by decide +kernel
theorem dX8_readsOn_85 : decode cX8_readsOn 85 = .ok (.goto 4, 3) := by decide +kernel
theorem dX8_readsOn_88 : decode cX8_readsOn 88 = .ok (.iconst (-1), 1) := by decide +kernel
theorem dX8_readsOn_89 : decode cX8_readsOn 89 = .ok (.ireturn, 1) := by decide +kernel
theorem dX8_readsOn_90 : decode cX8_readsOn 90 = .ok (.aload_n 0, 1) := by decide +kernel
theorem dX8_readsOn_91 : decode cX8_readsOn 91 = .ok (.invokevirtual 161, 3) := by decide +kernel
theorem dX8_readsOn_94 : decode cX8_readsOn 94 = .ok (.aload_n 0, 1) := by decide +kernel
theorem dX8_readsOn_95 : decode cX8_readsOn 95 = .ok (.getfield 65, 3) := by decide +kernel
theorem dX8_readsOn_98 : decode cX8_readsOn 98 = .ok (.aload_n 0, 1) := by decide +kernel
theorem dX8_readsOn_99 : decode cX8_readsOn 99 = .ok (.getfield 151, 3) := by decide +kernel
theorem dX8_readsOn_102 : decode cX8_readsOn 102 = .ok (.iload_n 1, 1) := by decide +kernel
theorem dX8_readsOn_103 : decode cX8_readsOn 103 = .ok (.iastore, 1) := by decide +kernel
theorem dX8_readsOn_104 : decode cX8_readsOn 104 = .ok (.aload_n 0, 1) := by decide +kernel
theorem dX8_readsOn_105 : decode cX8_readsOn 105 = .ok (.dup, 1) := by decide +kernel
theorem dX8_readsOn_106 : decode cX8_readsOn 106 = .ok (.getfield 140, 3) := by decide +kernel
theorem dX8_readsOn_109 : decode cX8_readsOn 109 = .ok (.iconst 1, 1) := by decide +kernel
theorem dX8_readsOn_110 : decode cX8_readsOn 110 = .ok (.iadd, 1) := by decide +kernel
theorem dX8_readsOn_111 : decode cX8_readsOn 111 = .ok (.putfield 140, 3) := by decide +kernel
theorem dX8_readsOn_114 : decode cX8_readsOn 114 = .ok (.iconst 0, 1) := by decide +kernel
theorem dX8_readsOn_115 : decode cX8_readsOn 115 = .ok (.ireturn, 1) := by decide +kernel
theorem dX8_readsOn_116 : decode cX8_readsOn 116 = .ok (.aload_n 0, 1) := by decide +kernel
theorem dX8_readsOn_117 : decode cX8_readsOn 117 = .ok (.invokevirtual 164, 3) := by decide +kernel
theorem dX8_readsOn_120 : decode cX8_readsOn 120 = .ok (.aload_n 0, 1) := by decide +kernel
theorem dX8_readsOn_121 : decode cX8_readsOn 121 = .ok (.getfield 62, 3) := by decide +kernel
theorem dX8_readsOn_124 : decode cX8_readsOn 124 = .ok (.aload_n 0, 1) := by decide +kernel
theorem dX8_readsOn_125 : decode cX8_readsOn 125 = .ok (.getfield 151, 3) := by decide +kernel
theorem dX8_readsOn_128 : decode cX8_readsOn 128 = .ok (.iload_n 1, 1) := by decide +kernel
theorem dX8_readsOn_129 : decode cX8_readsOn 129 = .ok (.iastore, 1) := by decide +kernel
theorem dX8_readsOn_130 : decode cX8_readsOn 130 = .ok (.aload_n 0, 1) := by decide +kernel
theorem dX8_readsOn_131 : decode cX8_readsOn 131 = .ok (.getfield 65, 3) := by decide +kernel
theorem dX8_readsOn_134 : decode cX8_readsOn 134 = .ok (.aload_n 0, 1) := by decide +kernel
theorem dX8_readsOn_135 : decode cX8_readsOn 135 = .ok (.getfield 151, 3) := by decide +kernel
theorem dX8_readsOn_138 : decode cX8_readsOn 138 = .ok (.iconst 0, 1) := by decide +kernel
theorem dX8_readsOn_139 : decode cX8_readsOn 139 = .ok (.iastore, 1) := by decide +kernel
theorem dX8_readsOn_140 : decode cX8_readsOn 140 = .ok (.aload_n 0, 1) := by decide +kernel
theorem dX8_readsOn_141 : decode cX8_readsOn 141 = .ok (.dup, 1) := by decide +kernel
theorem dX8_readsOn_142 : decode cX8_readsOn 142 = .ok (.getfield 140, 3) := by decide +kernel
theorem dX8_readsOn_145 : decode cX8_readsOn 145 = .ok (.iconst 1, 1) := by decide +kernel
theorem dX8_readsOn_146 : decode cX8_readsOn 146 = .ok (.iadd, 1) := by decide +kernel
theorem dX8_readsOn_147 : decode cX8_readsOn 147 = .ok (.putfield 140, 3) := by decide +kernel
theorem dX8_readsOn_150 : decode cX8_readsOn 150 = .ok (.iconst 0, 1) := by decide +kernel
theorem dX8_readsOn_151 : decode cX8_readsOn 151 = .ok (.ireturn, 1) := by decide +kernel
theorem dX8_readsOn_152 : decode cX8_readsOn 152 = .ok (.aload_n 0, 1) := by decide +kernel
theorem dX8_readsOn_153 : decode cX8_readsOn 153 = .ok (.getfield 151, 3) := by decide +kernel
theorem dX8_readsOn_156 : decode cX8_readsOn 156 = .ok (.ifCond .ne 5, 3) := by decide +kernel
theorem dX8_readsOn_159 : decode cX8_readsOn 159 = .ok (.iconst (-1), 1) := by decide +kernel
theorem dX8_readsOn_160 : decode cX8_readsOn 160 = .ok (.ireturn, 1) := by decide +kernel
theorem dX8_readsOn_161 : decode cX8_readsOn 161 = .ok (.aload_n 0, 1) := by decide +kernel
theorem dX8_readsOn_162 : decode cX8_readsOn 162 = .ok (.invokevirtual 212, 3) := by decide +kernel
theorem dX8_readsOn_165 : decode cX8_readsOn 165 = .ok (.aload_n 0, 1) := by decide +kernel
theorem dX8_readsOn_166 : decode cX8_readsOn 166 = .ok (.dup, 1) := by decide +kernel
theorem dX8_readsOn_167 : decode cX8_readsOn 167 = .ok (.getfield 140, 3) := by decide +kernel
theorem dX8_readsOn_170 : decode cX8_readsOn 170 = .ok (.iconst 1, 1) := by decide +kernel
theorem dX8_readsOn_171 : decode cX8_readsOn 171 = .ok (.iadd, 1) := by decide +kernel
theorem dX8_readsOn_172 : decode cX8_readsOn 172 = .ok (.putfield 140, 3) := by decide +kernel
theorem dX8_readsOn_175 : decode cX8_readsOn 175 = .ok (.iconst 1, 1) := by decide +kernel
theorem dX8_readsOn_176 : decode cX8_readsOn 176 = .ok (.ireturn, 1) := by decide +kernel
theorem dX8_readsOn_177 : decode cX8_readsOn 177 = .ok (.iconst (-1), 1) := by decide +kernel
theorem dX8_readsOn_178 : decode cX8_readsOn 178 = .ok (.ireturn, 1) := by decide +kernel
theorem dX8_readsSum_0 : decode cX8_readsSum 0 = .ok (.iconst 0, 1) := by decide +kernel
theorem dX8_readsSum_1 : decode cX8_readsSum 1 = .ok (.istore_n 1, 1) := by decide +kernel
theorem dX8_readsSum_2 : decode cX8_readsSum 2 = .ok (.aload_n 0, 1) := by decide +kernel
theorem dX8_readsSum_3 : decode cX8_readsSum 3 = .ok (.iconst 0, 1) := by decide +kernel
theorem dX8_readsSum_4 : decode cX8_readsSum 4 = .ok (.putfield 151, 3) := by decide +kernel
theorem dX8_readsSum_7 : decode cX8_readsSum 7 = .ok (.aload_n 0, 1) := by decide +kernel
theorem dX8_readsSum_8 : decode cX8_readsSum 8 = .ok (.iconst 0, 1) := by decide +kernel
theorem dX8_readsSum_9 : decode cX8_readsSum 9 = .ok (.invokevirtual 205, 3) := by decide +kernel
theorem dX8_readsSum_12 : decode cX8_readsSum 12 = .ok (.iload_n 1, 1) := by decide +kernel
theorem dX8_readsSum_13 : decode cX8_readsSum 13 = .ok (.iconst (-1), 1) := by decide +kernel
theorem dX8_readsSum_14 : decode cX8_readsSum 14 = .ok (.if_icmp .eq 100, 3) := by decide +kernel
theorem dX8_readsSum_17 : decode cX8_readsSum 17 = .ok (.aload_n 0, 1) := by decide +kernel
theorem dX8_readsSum_18 : decode cX8_readsSum 18 = .ok (.invokevirtual 215, 3) := by decide +kernel
theorem dX8_readsSum_21 : decode cX8_readsSum 21 = .ok (.istore_n 2, 1) := by decide +kernel
theorem dX8_readsSum_22 : decode cX8_readsSum 22 = .ok (.iload_n 1, 1) := by decide +kernel
theorem dX8_readsSum_23 : decode cX8_readsSum 23 = .ok (.iconst 1, 1) := by decide +kernel
theorem dX8_readsSum_24 : decode cX8_readsSum 24 = .ok (.if_icmp .eq 8, 3) := by decide +kernel
theorem dX8_readsSum_27 : decode cX8_readsSum 27 = .ok (.iload_n 1, 1) := by decide +kernel
theorem dX8_readsSum_28 : decode cX8_readsSum 28 = .ok (.iconst 2, 1) := by decide +kernel
theorem dX8_readsSum_29 : decode cX8_readsSum 29 = .ok (.if_icmp .ne 7, 3) := by decide +kernel
theorem dX8_readsSum_32 : decode cX8_readsSum 32 = .ok (.iconst 1, 1) := by decide +kernel
theorem dX8_readsSum_33 : decode cX8_readsSum 33 = .ok (.goto 4, 3) := by decide +kernel
theorem dX8_readsSum_36 : decode cX8_readsSum 36 = .ok (.iconst 0, 1) := by decide +kernel
theorem dX8_readsSum_37 : decode cX8_readsSum 37 = .ok (.istore_n 3, 1) := by decide +kernel
theorem dX8_readsSum_38 : decode cX8_readsSum 38 = .ok (.iload_n 3, 1) := by decide +kernel
theorem dX8_readsSum_39 : decode cX8_readsSum 39 = .ok (.ifCond .eq 27, 3) := by decide +kernel
theorem dX8_readsSum_42 : decode cX8_readsSum 42 = .ok (.aload_n 0, 1) := by decide +kernel
theorem dX8_readsSum_43 : decode cX8_readsSum 43 = .ok (.getfield 151, 3) := by decide +kernel
theorem dX8_readsSum_46 : decode cX8_readsSum 46 = .ok (.ifCond .ne 20, 3) := by decide +kernel
theorem dX8_readsSum_49 : decode cX8_readsSum 49 = .ok (.iload_n 2, 1) := by decide +kernel
theorem dX8_readsSum_50 : decode cX8_readsSum 50 = .ok (.bipush 59, 2) := by decide +kernel
theorem dX8_readsSum_52 : decode cX8_readsSum 52 = .ok (.if_icmp .eq 8, 3) := by decide +kernel
theorem dX8_readsSum_55 : decode cX8_readsSum 55 = .ok (.iload_n 2, 1) := by decide +kernel
theorem dX8_readsSum_56 : decode cX8_readsSum 56 = .ok (.iconst (-1), 1) := by decide +kernel
theorem dX8_readsSum_57 : decode cX8_readsSum 57 = .ok (.if_icmp .ne 9, 3) := by decide +kernel
theorem dX8_readsSum_60 : decode cX8_readsSum 60 = .ok (.aload_n 0, 1) := by decide +kernel
theorem dX8_readsSum_61 : decode cX8_readsSum 61 = .ok (.invokevirtual 164, 3) := by decide +kernel
theorem dX8_readsSum_64 : decode cX8_readsSum 64 = .ok (.iload_n 1, 1) := by decide +kernel
theorem dX8_readsSum_65 : decode cX8_readsSum 65 = .ok (.ireturn, 1) := by decide +kernel
theorem dX8_readsSum_66 : decode cX8_readsSum 66 = .ok (.iload_n 1, 1) := by decide +kernel
theorem dX8_readsSum_67 : decode cX8_readsSum 67 = .ok (.ifCond .ne 11, 3) := by decide +kernel
theorem dX8_readsSum_70 : decode cX8_readsSum 70 = .ok (.aload_n 0, 1) := by decide +kernel
theorem dX8_readsSum_71 : decode cX8_readsSum 71 = .ok (.iload_n 2, 1) := by decide +kernel
theorem dX8_readsSum_72 : decode cX8_readsSum 72 = .ok (.invokevirtual 218, 3) := by decide +kernel
theorem dX8_readsSum_75 : decode cX8_readsSum 75 = .ok (.goto 35, 3) := by decide +kernel
theorem dX8_readsSum_78 : decode cX8_readsSum 78 = .ok (.iload_n 1, 1) := by decide +kernel
theorem dX8_readsSum_79 : decode cX8_readsSum 79 = .ok (.iconst 3, 1) := by decide +kernel
theorem dX8_readsSum_80 : decode cX8_readsSum 80 = .ok (.if_icmp .ne 11, 3) := by decide +kernel
theorem dX8_readsSum_83 : decode cX8_readsSum 83 = .ok (.aload_n 0, 1) := by decide +kernel
theorem dX8_readsSum_84 : decode cX8_readsSum 84 = .ok (.iload_n 2, 1) := by decide +kernel
theorem dX8_readsSum_85 : decode cX8_readsSum 85 = .ok (.invokevirtual 202, 3) := by decide +kernel
theorem dX8_readsSum_88 : decode cX8_readsSum 88 = .ok (.goto 22, 3) := by decide +kernel
theorem dX8_readsSum_91 : decode cX8_readsSum 91 = .ok (.iload_n 1, 1) := by decide +kernel
theorem dX8_readsSum_92 : decode cX8_readsSum 92 = .ok (.iconst 4, 1) := by decide +kernel
theorem dX8_readsSum_93 : decode cX8_readsSum 93 = .ok (.if_icmp .ne 11, 3) := by decide +kernel
theorem dX8_readsSum_96 : decode cX8_readsSum 96 = .ok (.aload_n 0, 1) := by decide +kernel
theorem dX8_readsSum_97 : decode cX8_readsSum 97 = .ok (.iload_n 2, 1) := by decide +kernel
theorem dX8_readsSum_98 : decode cX8_readsSum 98 = .ok (.invokevirtual 221, 3) := by decide +kernel
theorem dX8_readsSum_101 : decode cX8_readsSum 101 = .ok (.goto 9, 3) := by decide +kernel
theorem dX8_readsSum_104 : decode cX8_readsSum 104 = .ok (.aload_n 0, 1) := by decide +kernel
theorem dX8_readsSum_105 : decode cX8_readsSum 105 = .ok (.iload_n 2, 1) := by decide +kernel
theorem dX8_readsSum_106 : decode cX8_readsSum 106 = .ok (.iload_n 1, 1) := by decide +kernel
theorem dX8_readsSum_107 : decode cX8_readsSum 107 = .ok (.invokevirtual 224, 3) := by decide +kernel
theorem dX8_readsSum_110 : decode cX8_readsSum 110 = .ok (.istore_n 1, 1) := by decide +kernel
theorem dX8_readsSum_111 : decode cX8_readsSum 111 = .ok (.goto (-99), 3) := by decide +kernel
theorem dX8_readsSum_114 : decode cX8_readsSum 114 = .ok (.iconst (-1), 1) := by decide +kernel
theorem dX8_readsSum_115 : decode cX8_readsSum 115 = .ok (.ireturn, 1) := by decide +kernel
theorem dX8_reads_0 : decode cX8_reads 0 = .ok (.aload_n 0, 1) := by decide +kernel
theorem dX8_reads_1 : decode cX8_reads 1 = .ok (.iconst 0, 1) := by decide +kernel
theorem dX8_reads_2 : decode cX8_reads 2 = .ok (.putfield 140, 3) := by decide +kernel
theorem dX8_reads_5 : decode cX8_reads 5 = .ok (.aload_n 0, 1) := by decide +kernel
theorem dX8_reads_6 : decode cX8_reads 6 = .ok (.iconst 0, 1) := by decide +kernel
theorem dX8_reads_7 : decode cX8_reads 7 = .ok (.putfield 154, 3) := by decide +kernel
theorem dX8_reads_10 : decode cX8_reads 10 = .ok (.aload_n 0, 1) := by decide +kernel
theorem dX8_reads_11 : decode cX8_reads 11 = .ok (.invokevirtual 227, 3) := by decide +kernel
theorem dX8_reads_14 : decode cX8_reads 14 = .ok (.iconst (-1), 1) := by decide +kernel
theorem dX8_reads_15 : decode cX8_reads 15 = .ok (.if_icmp .eq 12, 3) := by decide +kernel
theorem dX8_reads_18 : decode cX8_reads 18 = .ok (.aload_n 0, 1) := by decide +kernel
theorem dX8_reads_19 : decode cX8_reads 19 = .ok (.invokevirtual 215, 3) := by decide +kernel
theorem dX8_reads_22 : decode cX8_reads 22 = .ok (.bipush 59, 2) := by decide +kernel
theorem dX8_reads_24 : decode cX8_reads 24 = .ok (.if_icmp .eq 5, 3) := by decide +kernel
theorem dX8_reads_27 : decode cX8_reads 27 = .ok (.iconst 0, 1) := by decide +kernel
theorem dX8_reads_28 : decode cX8_reads 28 = .ok (.ireturn, 1) := by decide +kernel
theorem dX8_reads_29 : decode cX8_reads 29 = .ok (.aload_n 0, 1) := by decide +kernel
theorem dX8_reads_30 : decode cX8_reads 30 = .ok (.getfield 53, 3) := by decide +kernel
theorem dX8_reads_33 : decode cX8_reads 33 = .ok (.iconst 0, 1) := by decide +kernel
theorem dX8_reads_34 : decode cX8_reads 34 = .ok (.aload_n 0, 1) := by decide +kernel
theorem dX8_reads_35 : decode cX8_reads 35 = .ok (.getfield 71, 3) := by decide +kernel
theorem dX8_reads_38 : decode cX8_reads 38 = .ok (.iconst 0, 1) := by decide +kernel
theorem dX8_reads_39 : decode cX8_reads 39 = .ok (.bipush 9, 2) := by decide +kernel
theorem dX8_reads_41 : decode cX8_reads 41 = .ok (.invokestatic 112, 3) := by decide +kernel
theorem dX8_reads_44 : decode cX8_reads 44 = .ok (.aload_n 0, 1) := by decide +kernel
theorem dX8_reads_45 : decode cX8_reads 45 = .ok (.dup, 1) := by decide +kernel
theorem dX8_reads_46 : decode cX8_reads 46 = .ok (.getfield 140, 3) := by decide +kernel
theorem dX8_reads_49 : decode cX8_reads 49 = .ok (.iconst 1, 1) := by decide +kernel
theorem dX8_reads_50 : decode cX8_reads 50 = .ok (.iadd, 1) := by decide +kernel
theorem dX8_reads_51 : decode cX8_reads 51 = .ok (.putfield 140, 3) := by decide +kernel
theorem dX8_reads_54 : decode cX8_reads 54 = .ok (.aload_n 0, 1) := by decide +kernel
theorem dX8_reads_55 : decode cX8_reads 55 = .ok (.invokevirtual 227, 3) := by decide +kernel
theorem dX8_reads_58 : decode cX8_reads 58 = .ok (.iconst (-1), 1) := by decide +kernel
theorem dX8_reads_59 : decode cX8_reads 59 = .ok (.if_icmp .eq 11, 3) := by decide +kernel
theorem dX8_reads_62 : decode cX8_reads 62 = .ok (.aload_n 0, 1) := by decide +kernel
theorem dX8_reads_63 : decode cX8_reads 63 = .ok (.invokevirtual 215, 3) := by decide +kernel
theorem dX8_reads_66 : decode cX8_reads 66 = .ok (.iconst (-1), 1) := by decide +kernel
theorem dX8_reads_67 : decode cX8_reads 67 = .ok (.if_icmp .eq 5, 3) := by decide +kernel
theorem dX8_reads_70 : decode cX8_reads 70 = .ok (.iconst 0, 1) := by decide +kernel
theorem dX8_reads_71 : decode cX8_reads 71 = .ok (.ireturn, 1) := by decide +kernel
theorem dX8_reads_72 : decode cX8_reads 72 = .ok (.aload_n 0, 1) := by decide +kernel
theorem dX8_reads_73 : decode cX8_reads 73 = .ok (.getfield 53, 3) := by decide +kernel
theorem dX8_reads_76 : decode cX8_reads 76 = .ok (.iconst 0, 1) := by decide +kernel
theorem dX8_reads_77 : decode cX8_reads 77 = .ok (.aload_n 0, 1) := by decide +kernel
theorem dX8_reads_78 : decode cX8_reads 78 = .ok (.getfield 74, 3) := by decide +kernel
theorem dX8_reads_81 : decode cX8_reads 81 = .ok (.iconst 0, 1) := by decide +kernel
theorem dX8_reads_82 : decode cX8_reads 82 = .ok (.bipush 9, 2) := by decide +kernel
theorem dX8_reads_84 : decode cX8_reads 84 = .ok (.invokestatic 112, 3) := by decide +kernel
theorem dX8_reads_87 : decode cX8_reads 87 = .ok (.aload_n 0, 1) := by decide +kernel
theorem dX8_reads_88 : decode cX8_reads 88 = .ok (.aload_n 0, 1) := by decide +kernel
theorem dX8_reads_89 : decode cX8_reads 89 = .ok (.getfield 154, 3) := by decide +kernel
theorem dX8_reads_92 : decode cX8_reads 92 = .ok (.ifCond .ne 23, 3) := by decide +kernel
theorem dX8_reads_95 : decode cX8_reads 95 = .ok (.aload_n 0, 1) := by decide +kernel
theorem dX8_reads_96 : decode cX8_reads 96 = .ok (.getfield 71, 3) := by decide +kernel
theorem dX8_reads_99 : decode cX8_reads 99 = .ok (.iconst 0, 1) := by decide +kernel
theorem dX8_reads_100 : decode cX8_reads 100 = .ok (.iaload, 1) := by decide +kernel
theorem dX8_reads_101 : decode cX8_reads 101 = .ok (.ifCond .eq 14, 3) := by decide +kernel
theorem dX8_reads_104 : decode cX8_reads 104 = .ok (.aload_n 0, 1) := by decide +kernel
theorem dX8_reads_105 : decode cX8_reads 105 = .ok (.getfield 74, 3) := by decide +kernel
theorem dX8_reads_108 : decode cX8_reads 108 = .ok (.iconst 0, 1) := by decide +kernel
theorem dX8_reads_109 : decode cX8_reads 109 = .ok (.invokestatic 167, 3) := by decide +kernel
theorem dX8_reads_112 : decode cX8_reads 112 = .ok (.ifCond .ne 7, 3) := by decide +kernel
theorem dX8_reads_115 : decode cX8_reads 115 = .ok (.iconst 1, 1) := by decide +kernel
theorem dX8_reads_116 : decode cX8_reads 116 = .ok (.goto 4, 3) := by decide +kernel
theorem dX8_reads_119 : decode cX8_reads 119 = .ok (.iconst 0, 1) := by decide +kernel
theorem dX8_reads_120 : decode cX8_reads 120 = .ok (.putfield 154, 3) := by decide +kernel
theorem dX8_reads_123 : decode cX8_reads 123 = .ok (.iconst 1, 1) := by decide +kernel
theorem dX8_reads_124 : decode cX8_reads 124 = .ok (.ireturn, 1) := by decide +kernel
theorem dX8_write_0 : decode cX8_write 0 = .ok (.iload_n 1, 1) := by decide +kernel
theorem dX8_write_1 : decode cX8_write 1 = .ok (.iconst 0, 1) := by decide +kernel
theorem dX8_write_2 : decode cX8_write 2 = .ok (.sipush 255, 3) := by decide +kernel
theorem dX8_write_5 : decode cX8_write 5 = .ok (.invokestatic 104, 3) := by decide +kernel
theorem dX8_write_8 : decode cX8_write 8 = .ok (.ifCond .ne 6, 3) := by decide +kernel
theorem dX8_write_11 : decode cX8_write 11 = .ok (.bipush (-3), 2) := by decide +kernel
theorem dX8_write_13 : decode cX8_write 13 = .ok (.ireturn, 1) := by decide +kernel
theorem dX8_write_14 : decode cX8_write 14 = .ok (.aload_n 0, 1) := by decide +kernel
theorem dX8_write_15 : decode cX8_write 15 = .ok (.getfield 144, 3) := by decide +kernel
theorem dX8_write_18 : decode cX8_write 18 = .ok (.bipush 120, 2) := by decide +kernel
theorem dX8_write_20 : decode cX8_write 20 = .ok (.if_icmp .ne 6, 3) := by decide +kernel
theorem dX8_write_23 : decode cX8_write 23 = .ok (.bipush (-5), 2) := by decide +kernel
theorem dX8_write_25 : decode cX8_write 25 = .ok (.ireturn, 1) := by decide +kernel
theorem dX8_write_26 : decode cX8_write 26 = .ok (.aload_n 0, 1) := by decide +kernel
theorem dX8_write_27 : decode cX8_write 27 = .ok (.getfield 29, 3) := by decide +kernel
theorem dX8_write_30 : decode cX8_write 30 = .ok (.aload_n 0, 1) := by decide +kernel
theorem dX8_write_31 : decode cX8_write 31 = .ok (.getfield 144, 3) := by decide +kernel
theorem dX8_write_34 : decode cX8_write 34 = .ok (.iload_n 1, 1) := by decide +kernel
theorem dX8_write_35 : decode cX8_write 35 = .ok (.iastore, 1) := by decide +kernel
theorem dX8_write_36 : decode cX8_write 36 = .ok (.aload_n 0, 1) := by decide +kernel
theorem dX8_write_37 : decode cX8_write 37 = .ok (.dup, 1) := by decide +kernel
theorem dX8_write_38 : decode cX8_write 38 = .ok (.getfield 144, 3) := by decide +kernel
theorem dX8_write_41 : decode cX8_write 41 = .ok (.iconst 1, 1) := by decide +kernel
theorem dX8_write_42 : decode cX8_write 42 = .ok (.iadd, 1) := by decide +kernel
theorem dX8_write_43 : decode cX8_write 43 = .ok (.putfield 144, 3) := by decide +kernel
theorem dX8_write_46 : decode cX8_write 46 = .ok (.aload_n 0, 1) := by decide +kernel
theorem dX8_write_47 : decode cX8_write 47 = .ok (.getfield 144, 3) := by decide +kernel
theorem dX8_write_50 : decode cX8_write 50 = .ok (.ireturn, 1) := by decide +kernel
theorem dX8_erase_0 : decode cX8_erase 0 = .ok (.aload_n 0, 1) := by decide +kernel
theorem dX8_erase_1 : decode cX8_erase 1 = .ok (.getfield 144, 3) := by decide +kernel
theorem dX8_erase_4 : decode cX8_erase 4 = .ok (.istore_n 1, 1) := by decide +kernel
theorem dX8_erase_5 : decode cX8_erase 5 = .ok (.aload_n 0, 1) := by decide +kernel
theorem dX8_erase_6 : decode cX8_erase 6 = .ok (.iconst 0, 1) := by decide +kernel
theorem dX8_erase_7 : decode cX8_erase 7 = .ok (.putfield 144, 3) := by decide +kernel
theorem dX8_erase_10 : decode cX8_erase 10 = .ok (.iload_n 1, 1) := by decide +kernel
theorem dX8_erase_11 : decode cX8_erase 11 = .ok (.ireturn, 1) := by decide +kernel
theorem dX8_fault_0 : decode cX8_fault 0 = .ok (.aload_n 0, 1) := by decide +kernel
theorem dX8_fault_1 : decode cX8_fault 1 = .ok (.invokevirtual 230, 3) := by decide +kernel
theorem dX8_fault_4 : decode cX8_fault 4 = .ok (.ifCond .eq 7, 3) := by decide +kernel
theorem dX8_fault_7 : decode cX8_fault 7 = .ok (.iconst (-1), 1) := by decide +kernel
theorem dX8_fault_8 : decode cX8_fault 8 = .ok (.goto 7, 3) := by decide +kernel
theorem dX8_fault_11 : decode cX8_fault 11 = .ok (.aload_n 0, 1) := by decide +kernel
theorem dX8_fault_12 : decode cX8_fault 12 = .ok (.getfield 140, 3) := by decide +kernel
theorem dX8_fault_15 : decode cX8_fault 15 = .ok (.ireturn, 1) := by decide +kernel
theorem dX8_becomes_0 : decode cX8_becomes 0 = .ok (.aload_n 2, 1) := by decide +kernel
theorem dX8_becomes_1 : decode cX8_becomes 1 = .ok (.iconst 0, 1) := by decide +kernel
theorem dX8_becomes_2 : decode cX8_becomes 2 = .ok (.aload_n 0, 1) := by decide +kernel
theorem dX8_becomes_3 : decode cX8_becomes 3 = .ok (.getfield 7, 3) := by decide +kernel
theorem dX8_becomes_6 : decode cX8_becomes 6 = .ok (.bipush 9, 2) := by decide +kernel
theorem dX8_becomes_8 : decode cX8_becomes 8 = .ok (.iload_n 1, 1) := by decide +kernel
theorem dX8_becomes_9 : decode cX8_becomes 9 = .ok (.imul, 1) := by decide +kernel
theorem dX8_becomes_10 : decode cX8_becomes 10 = .ok (.bipush 9, 2) := by decide +kernel
theorem dX8_becomes_12 : decode cX8_becomes 12 = .ok (.invokestatic 112, 3) := by decide +kernel
theorem dX8_becomes_15 : decode cX8_becomes 15 = .ok (.aload_n 3, 1) := by decide +kernel
theorem dX8_becomes_16 : decode cX8_becomes 16 = .ok (.iconst 0, 1) := by decide +kernel
theorem dX8_becomes_17 : decode cX8_becomes 17 = .ok (.aload_n 0, 1) := by decide +kernel
theorem dX8_becomes_18 : decode cX8_becomes 18 = .ok (.getfield 13, 3) := by decide +kernel
theorem dX8_becomes_21 : decode cX8_becomes 21 = .ok (.bipush 9, 2) := by decide +kernel
theorem dX8_becomes_23 : decode cX8_becomes 23 = .ok (.iload_n 1, 1) := by decide +kernel
theorem dX8_becomes_24 : decode cX8_becomes 24 = .ok (.imul, 1) := by decide +kernel
theorem dX8_becomes_25 : decode cX8_becomes 25 = .ok (.bipush 9, 2) := by decide +kernel
theorem dX8_becomes_27 : decode cX8_becomes 27 = .ok (.invokestatic 112, 3) := by decide +kernel
theorem dX8_becomes_30 : decode cX8_becomes 30 = .ok (.aload_n 0, 1) := by decide +kernel
theorem dX8_becomes_31 : decode cX8_becomes 31 = .ok (.getfield 13, 3) := by decide +kernel
theorem dX8_becomes_34 : decode cX8_becomes 34 = .ok (.bipush 9, 2) := by decide +kernel
theorem dX8_becomes_36 : decode cX8_becomes 36 = .ok (.iload_n 1, 1) := by decide +kernel
theorem dX8_becomes_37 : decode cX8_becomes 37 = .ok (.imul, 1) := by decide +kernel
theorem dX8_becomes_38 : decode cX8_becomes 38 = .ok (.iconst 1, 1) := by decide +kernel
theorem dX8_becomes_39 : decode cX8_becomes 39 = .ok (.iadd, 1) := by decide +kernel
theorem dX8_becomes_40 : decode cX8_becomes 40 = .ok (.iaload, 1) := by decide +kernel
theorem dX8_becomes_41 : decode cX8_becomes 41 = .ok (.ireturn, 1) := by decide +kernel
theorem dX8_read_0 : decode cX8_read 0 = .ok (.iload_n 1, 1) := by decide +kernel
theorem dX8_read_1 : decode cX8_read 1 = .ok (.invokestatic 234, 3) := by decide +kernel
theorem dX8_read_4 : decode cX8_read 4 = .ok (.ifCond .ne 6, 3) := by decide +kernel
theorem dX8_read_7 : decode cX8_read 7 = .ok (.bipush (-2), 2) := by decide +kernel
theorem dX8_read_9 : decode cX8_read 9 = .ok (.ireturn, 1) := by decide +kernel
theorem dX8_read_10 : decode cX8_read 10 = .ok (.aload_n 0, 1) := by decide +kernel
theorem dX8_read_11 : decode cX8_read 11 = .ok (.invokevirtual 230, 3) := by decide +kernel
theorem dX8_read_14 : decode cX8_read 14 = .ok (.ifCond .ne 6, 3) := by decide +kernel
theorem dX8_read_17 : decode cX8_read 17 = .ok (.bipush (-4), 2) := by decide +kernel
theorem dX8_read_19 : decode cX8_read 19 = .ok (.ireturn, 1) := by decide +kernel
theorem dX8_read_20 : decode cX8_read 20 = .ok (.aload_n 0, 1) := by decide +kernel
theorem dX8_read_21 : decode cX8_read 21 = .ok (.getfield 154, 3) := by decide +kernel
theorem dX8_read_24 : decode cX8_read 24 = .ok (.ifCond .eq 6, 3) := by decide +kernel
theorem dX8_read_27 : decode cX8_read 27 = .ok (.bipush (-6), 2) := by decide +kernel
theorem dX8_read_29 : decode cX8_read 29 = .ok (.ireturn, 1) := by decide +kernel
theorem dX8_read_30 : decode cX8_read 30 = .ok (.aload_n 0, 1) := by decide +kernel
theorem dX8_read_31 : decode cX8_read 31 = .ok (.iconst 0, 1) := by decide +kernel
theorem dX8_read_32 : decode cX8_read 32 = .ok (.putfield 144, 3) := by decide +kernel
theorem dX8_read_35 : decode cX8_read 35 = .ok (.aload_n 0, 1) := by decide +kernel
theorem dX8_read_36 : decode cX8_read 36 = .ok (.iload_n 1, 1) := by decide +kernel
theorem dX8_read_37 : decode cX8_read 37 = .ok (.aload_n 0, 1) := by decide +kernel
theorem dX8_read_38 : decode cX8_read 38 = .ok (.getfield 71, 3) := by decide +kernel
theorem dX8_read_41 : decode cX8_read 41 = .ok (.aload_n 0, 1) := by decide +kernel
theorem dX8_read_42 : decode cX8_read 42 = .ok (.getfield 74, 3) := by decide +kernel
theorem dX8_read_45 : decode cX8_read 45 = .ok (.invokevirtual 237, 3) := by decide +kernel
theorem dX8_read_48 : decode cX8_read 48 = .ok (.ireturn, 1) := by decide +kernel
theorem dX8_compose_0 : decode cX8_compose 0 = .ok (.iload_n 1, 1) := by decide +kernel
theorem dX8_compose_1 : decode cX8_compose 1 = .ok (.invokestatic 234, 3) := by decide +kernel
theorem dX8_compose_4 : decode cX8_compose 4 = .ok (.ifCond .eq 17, 3) := by decide +kernel
theorem dX8_compose_7 : decode cX8_compose 7 = .ok (.iload_n 2, 1) := by decide +kernel
theorem dX8_compose_8 : decode cX8_compose 8 = .ok (.invokestatic 234, 3) := by decide +kernel
theorem dX8_compose_11 : decode cX8_compose 11 = .ok (.ifCond .eq 10, 3) := by decide +kernel
theorem dX8_compose_14 : decode cX8_compose 14 = .ok (.iload_n 3, 1) := by decide +kernel
theorem dX8_compose_15 : decode cX8_compose 15 = .ok (.invokestatic 234, 3) := by decide +kernel
theorem dX8_compose_18 : decode cX8_compose 18 = .ok (.ifCond .ne 6, 3) := by decide +kernel
theorem dX8_compose_21 : decode cX8_compose 21 = .ok (.bipush (-2), 2) := by decide +kernel
theorem dX8_compose_23 : decode cX8_compose 23 = .ok (.ireturn, 1) := by decide +kernel
theorem dX8_compose_24 : decode cX8_compose 24 = .ok (.aload_n 0, 1) := by decide +kernel
theorem dX8_compose_25 : decode cX8_compose 25 = .ok (.aload_n 0, 1) := by decide +kernel
theorem dX8_compose_26 : decode cX8_compose 26 = .ok (.getfield 7, 3) := by decide +kernel
theorem dX8_compose_29 : decode cX8_compose 29 = .ok (.bipush 9, 2) := by decide +kernel
theorem dX8_compose_31 : decode cX8_compose 31 = .ok (.iload_n 2, 1) := by decide +kernel
theorem dX8_compose_32 : decode cX8_compose 32 = .ok (.imul, 1) := by decide +kernel
theorem dX8_compose_33 : decode cX8_compose 33 = .ok (.aload_n 0, 1) := by decide +kernel
theorem dX8_compose_34 : decode cX8_compose 34 = .ok (.getfield 13, 3) := by decide +kernel
theorem dX8_compose_37 : decode cX8_compose 37 = .ok (.bipush 9, 2) := by decide +kernel
theorem dX8_compose_39 : decode cX8_compose 39 = .ok (.iload_n 3, 1) := by decide +kernel
theorem dX8_compose_40 : decode cX8_compose 40 = .ok (.imul, 1) := by decide +kernel
theorem dX8_compose_41 : decode cX8_compose 41 = .ok (.aload_n 0, 1) := by decide +kernel
theorem dX8_compose_42 : decode cX8_compose 42 = .ok (.getfield 77, 3) := by decide +kernel
theorem dX8_compose_45 : decode cX8_compose 45 = .ok (.invokevirtual 137, 3) := by decide +kernel
theorem dX8_compose_48 : decode cX8_compose 48 = .ok (.aload_n 0, 1) := by decide +kernel
theorem dX8_compose_49 : decode cX8_compose 49 = .ok (.aload_n 0, 1) := by decide +kernel
theorem dX8_compose_50 : decode cX8_compose 50 = .ok (.getfield 77, 3) := by decide +kernel
theorem dX8_compose_53 : decode cX8_compose 53 = .ok (.iconst 0, 1) := by decide +kernel
theorem dX8_compose_54 : decode cX8_compose 54 = .ok (.aload_n 0, 1) := by decide +kernel
theorem dX8_compose_55 : decode cX8_compose 55 = .ok (.getfield 7, 3) := by decide +kernel
theorem dX8_compose_58 : decode cX8_compose 58 = .ok (.bipush 9, 2) := by decide +kernel
theorem dX8_compose_60 : decode cX8_compose 60 = .ok (.iload_n 3, 1) := by decide +kernel
theorem dX8_compose_61 : decode cX8_compose 61 = .ok (.imul, 1) := by decide +kernel
theorem dX8_compose_62 : decode cX8_compose 62 = .ok (.aload_n 0, 1) := by decide +kernel
theorem dX8_compose_63 : decode cX8_compose 63 = .ok (.getfield 77, 3) := by decide +kernel
theorem dX8_compose_66 : decode cX8_compose 66 = .ok (.invokevirtual 133, 3) := by decide +kernel
theorem dX8_compose_69 : decode cX8_compose 69 = .ok (.aload_n 0, 1) := by decide +kernel
theorem dX8_compose_70 : decode cX8_compose 70 = .ok (.aload_n 0, 1) := by decide +kernel
theorem dX8_compose_71 : decode cX8_compose 71 = .ok (.getfield 13, 3) := by decide +kernel
theorem dX8_compose_74 : decode cX8_compose 74 = .ok (.bipush 9, 2) := by decide +kernel
theorem dX8_compose_76 : decode cX8_compose 76 = .ok (.iload_n 2, 1) := by decide +kernel
theorem dX8_compose_77 : decode cX8_compose 77 = .ok (.imul, 1) := by decide +kernel
theorem dX8_compose_78 : decode cX8_compose 78 = .ok (.aload_n 0, 1) := by decide +kernel
theorem dX8_compose_79 : decode cX8_compose 79 = .ok (.getfield 13, 3) := by decide +kernel
theorem dX8_compose_82 : decode cX8_compose 82 = .ok (.bipush 9, 2) := by decide +kernel
theorem dX8_compose_84 : decode cX8_compose 84 = .ok (.iload_n 3, 1) := by decide +kernel
theorem dX8_compose_85 : decode cX8_compose 85 = .ok (.imul, 1) := by decide +kernel
theorem dX8_compose_86 : decode cX8_compose 86 = .ok (.aload_n 0, 1) := by decide +kernel
theorem dX8_compose_87 : decode cX8_compose 87 = .ok (.getfield 80, 3) := by decide +kernel
theorem dX8_compose_90 : decode cX8_compose 90 = .ok (.invokevirtual 137, 3) := by decide +kernel
theorem dX8_compose_93 : decode cX8_compose 93 = .ok (.aload_n 0, 1) := by decide +kernel
theorem dX8_compose_94 : decode cX8_compose 94 = .ok (.iload_n 1, 1) := by decide +kernel
theorem dX8_compose_95 : decode cX8_compose 95 = .ok (.aload_n 0, 1) := by decide +kernel
theorem dX8_compose_96 : decode cX8_compose 96 = .ok (.getfield 77, 3) := by decide +kernel
theorem dX8_compose_99 : decode cX8_compose 99 = .ok (.aload_n 0, 1) := by decide +kernel
theorem dX8_compose_100 : decode cX8_compose 100 = .ok (.getfield 80, 3) := by decide +kernel
theorem dX8_compose_103 : decode cX8_compose 103 = .ok (.invokevirtual 237, 3) := by decide +kernel
theorem dX8_compose_106 : decode cX8_compose 106 = .ok (.ireturn, 1) := by decide +kernel
theorem dX8_laysOne_0 : decode cX8_laysOne 0 = .ok (.iconst 0, 1) := by decide +kernel
theorem dX8_laysOne_1 : decode cX8_laysOne 1 = .ok (.istore_n 1, 1) := by decide +kernel
theorem dX8_laysOne_2 : decode cX8_laysOne 2 = .ok (.iload_n 1, 1) := by decide +kernel
theorem dX8_laysOne_3 : decode cX8_laysOne 3 = .ok (.bipush 9, 2) := by decide +kernel
theorem dX8_laysOne_5 : decode cX8_laysOne 5 = .ok (.if_icmp .ge 24, 3) := by decide +kernel
theorem dX8_laysOne_8 : decode cX8_laysOne 8 = .ok (.aload_n 0, 1) := by decide +kernel
theorem dX8_laysOne_9 : decode cX8_laysOne 9 = .ok (.getfield 83, 3) := by decide +kernel
theorem dX8_laysOne_12 : decode cX8_laysOne 12 = .ok (.iload_n 1, 1) := by decide +kernel
theorem dX8_laysOne_13 : decode cX8_laysOne 13 = .ok (.iload_n 1, 1) := by decide +kernel
theorem dX8_laysOne_14 : decode cX8_laysOne 14 = .ok (.ifCond .ne 7, 3) := by decide +kernel
theorem dX8_laysOne_17 : decode cX8_laysOne 17 = .ok (.iconst 1, 1) := by decide +kernel
theorem dX8_laysOne_18 : decode cX8_laysOne 18 = .ok (.goto 4, 3) := by decide +kernel
theorem dX8_laysOne_21 : decode cX8_laysOne 21 = .ok (.iconst 0, 1) := by decide +kernel
theorem dX8_laysOne_22 : decode cX8_laysOne 22 = .ok (.iastore, 1) := by decide +kernel
theorem dX8_laysOne_23 : decode cX8_laysOne 23 = .ok (.iinc 1 1, 3) := by decide +kernel
theorem dX8_laysOne_26 : decode cX8_laysOne 26 = .ok (.goto (-24), 3) := by decide +kernel
theorem dX8_laysOne_29 : decode cX8_laysOne 29 = .ok (.return_, 1) := by decide +kernel
theorem dX8_invert_0 : decode cX8_invert 0 = .ok (.iload_n 1, 1) := by decide +kernel
theorem dX8_invert_1 : decode cX8_invert 1 = .ok (.invokestatic 234, 3) := by decide +kernel
theorem dX8_invert_4 : decode cX8_invert 4 = .ok (.ifCond .eq 10, 3) := by decide +kernel
theorem dX8_invert_7 : decode cX8_invert 7 = .ok (.iload_n 2, 1) := by decide +kernel
theorem dX8_invert_8 : decode cX8_invert 8 = .ok (.invokestatic 234, 3) := by decide +kernel
theorem dX8_invert_11 : decode cX8_invert 11 = .ok (.ifCond .ne 6, 3) := by decide +kernel
theorem dX8_invert_14 : decode cX8_invert 14 = .ok (.bipush (-2), 2) := by decide +kernel
theorem dX8_invert_16 : decode cX8_invert 16 = .ok (.ireturn, 1) := by decide +kernel
theorem dX8_invert_17 : decode cX8_invert 17 = .ok (.aload_n 0, 1) := by decide +kernel
theorem dX8_invert_18 : decode cX8_invert 18 = .ok (.aload_n 0, 1) := by decide +kernel
theorem dX8_invert_19 : decode cX8_invert 19 = .ok (.getfield 13, 3) := by decide +kernel
theorem dX8_invert_22 : decode cX8_invert 22 = .ok (.bipush 9, 2) := by decide +kernel
theorem dX8_invert_24 : decode cX8_invert 24 = .ok (.iload_n 2, 1) := by decide +kernel
theorem dX8_invert_25 : decode cX8_invert 25 = .ok (.imul, 1) := by decide +kernel
theorem dX8_invert_26 : decode cX8_invert 26 = .ok (.aload_n 0, 1) := by decide +kernel
theorem dX8_invert_27 : decode cX8_invert 27 = .ok (.getfield 80, 3) := by decide +kernel
theorem dX8_invert_30 : decode cX8_invert 30 = .ok (.invokevirtual 171, 3) := by decide +kernel
theorem dX8_invert_33 : decode cX8_invert 33 = .ok (.aload_n 0, 1) := by decide +kernel
theorem dX8_invert_34 : decode cX8_invert 34 = .ok (.aload_n 0, 1) := by decide +kernel
theorem dX8_invert_35 : decode cX8_invert 35 = .ok (.getfield 7, 3) := by decide +kernel
theorem dX8_invert_38 : decode cX8_invert 38 = .ok (.bipush 9, 2) := by decide +kernel
theorem dX8_invert_40 : decode cX8_invert 40 = .ok (.iload_n 2, 1) := by decide +kernel
theorem dX8_invert_41 : decode cX8_invert 41 = .ok (.imul, 1) := by decide +kernel
theorem dX8_invert_42 : decode cX8_invert 42 = .ok (.aload_n 0, 1) := by decide +kernel
theorem dX8_invert_43 : decode cX8_invert 43 = .ok (.getfield 80, 3) := by decide +kernel
theorem dX8_invert_46 : decode cX8_invert 46 = .ok (.iconst 0, 1) := by decide +kernel
theorem dX8_invert_47 : decode cX8_invert 47 = .ok (.aload_n 0, 1) := by decide +kernel
theorem dX8_invert_48 : decode cX8_invert 48 = .ok (.getfield 77, 3) := by decide +kernel
theorem dX8_invert_51 : decode cX8_invert 51 = .ok (.invokevirtual 137, 3) := by decide +kernel
theorem dX8_invert_54 : decode cX8_invert 54 = .ok (.aload_n 0, 1) := by decide +kernel
theorem dX8_invert_55 : decode cX8_invert 55 = .ok (.invokevirtual 241, 3) := by decide +kernel
theorem dX8_invert_58 : decode cX8_invert 58 = .ok (.aload_n 0, 1) := by decide +kernel
theorem dX8_invert_59 : decode cX8_invert 59 = .ok (.aload_n 0, 1) := by decide +kernel
theorem dX8_invert_60 : decode cX8_invert 60 = .ok (.getfield 83, 3) := by decide +kernel
theorem dX8_invert_63 : decode cX8_invert 63 = .ok (.iconst 0, 1) := by decide +kernel
theorem dX8_invert_64 : decode cX8_invert 64 = .ok (.aload_n 0, 1) := by decide +kernel
theorem dX8_invert_65 : decode cX8_invert 65 = .ok (.getfield 77, 3) := by decide +kernel
theorem dX8_invert_68 : decode cX8_invert 68 = .ok (.iconst 0, 1) := by decide +kernel
theorem dX8_invert_69 : decode cX8_invert 69 = .ok (.aload_n 0, 1) := by decide +kernel
theorem dX8_invert_70 : decode cX8_invert 70 = .ok (.getfield 77, 3) := by decide +kernel
theorem dX8_invert_73 : decode cX8_invert 73 = .ok (.invokevirtual 158, 3) := by decide +kernel
theorem dX8_invert_76 : decode cX8_invert 76 = .ok (.aload_n 0, 1) := by decide +kernel
theorem dX8_invert_77 : decode cX8_invert 77 = .ok (.iload_n 1, 1) := by decide +kernel
theorem dX8_invert_78 : decode cX8_invert 78 = .ok (.aload_n 0, 1) := by decide +kernel
theorem dX8_invert_79 : decode cX8_invert 79 = .ok (.getfield 77, 3) := by decide +kernel
theorem dX8_invert_82 : decode cX8_invert 82 = .ok (.aload_n 0, 1) := by decide +kernel
theorem dX8_invert_83 : decode cX8_invert 83 = .ok (.getfield 80, 3) := by decide +kernel
theorem dX8_invert_86 : decode cX8_invert 86 = .ok (.invokevirtual 237, 3) := by decide +kernel
theorem dX8_invert_89 : decode cX8_invert 89 = .ok (.ireturn, 1) := by decide +kernel
theorem dX8_copiesRow_0 : decode cX8_copiesRow 0 = .ok (.aload_n 0, 1) := by decide +kernel
theorem dX8_copiesRow_1 : decode cX8_copiesRow 1 = .ok (.getfield 7, 3) := by decide +kernel
theorem dX8_copiesRow_4 : decode cX8_copiesRow 4 = .ok (.bipush 9, 2) := by decide +kernel
theorem dX8_copiesRow_6 : decode cX8_copiesRow 6 = .ok (.iload_n 1, 1) := by decide +kernel
theorem dX8_copiesRow_7 : decode cX8_copiesRow 7 = .ok (.imul, 1) := by decide +kernel
theorem dX8_copiesRow_8 : decode cX8_copiesRow 8 = .ok (.aload_n 0, 1) := by decide +kernel
theorem dX8_copiesRow_9 : decode cX8_copiesRow 9 = .ok (.getfield 77, 3) := by decide +kernel
theorem dX8_copiesRow_12 : decode cX8_copiesRow 12 = .ok (.iconst 0, 1) := by decide +kernel
theorem dX8_copiesRow_13 : decode cX8_copiesRow 13 = .ok (.bipush 9, 2) := by decide +kernel
theorem dX8_copiesRow_15 : decode cX8_copiesRow 15 = .ok (.invokestatic 112, 3) := by decide +kernel
theorem dX8_copiesRow_18 : decode cX8_copiesRow 18 = .ok (.aload_n 0, 1) := by decide +kernel
theorem dX8_copiesRow_19 : decode cX8_copiesRow 19 = .ok (.getfield 13, 3) := by decide +kernel
theorem dX8_copiesRow_22 : decode cX8_copiesRow 22 = .ok (.bipush 9, 2) := by decide +kernel
theorem dX8_copiesRow_24 : decode cX8_copiesRow 24 = .ok (.iload_n 1, 1) := by decide +kernel
theorem dX8_copiesRow_25 : decode cX8_copiesRow 25 = .ok (.imul, 1) := by decide +kernel
theorem dX8_copiesRow_26 : decode cX8_copiesRow 26 = .ok (.aload_n 0, 1) := by decide +kernel
theorem dX8_copiesRow_27 : decode cX8_copiesRow 27 = .ok (.getfield 80, 3) := by decide +kernel
theorem dX8_copiesRow_30 : decode cX8_copiesRow 30 = .ok (.iconst 0, 1) := by decide +kernel
theorem dX8_copiesRow_31 : decode cX8_copiesRow 31 = .ok (.bipush 9, 2) := by decide +kernel
theorem dX8_copiesRow_33 : decode cX8_copiesRow 33 = .ok (.invokestatic 112, 3) := by decide +kernel
theorem dX8_copiesRow_36 : decode cX8_copiesRow 36 = .ok (.return_, 1) := by decide +kernel
theorem dX8_part_0 : decode cX8_part 0 = .ok (.iload_n 1, 1) := by decide +kernel
theorem dX8_part_1 : decode cX8_part 1 = .ok (.invokestatic 234, 3) := by decide +kernel
theorem dX8_part_4 : decode cX8_part 4 = .ok (.ifCond .eq 10, 3) := by decide +kernel
theorem dX8_part_7 : decode cX8_part 7 = .ok (.iload_n 2, 1) := by decide +kernel
theorem dX8_part_8 : decode cX8_part 8 = .ok (.invokestatic 234, 3) := by decide +kernel
theorem dX8_part_11 : decode cX8_part 11 = .ok (.ifCond .ne 6, 3) := by decide +kernel
theorem dX8_part_14 : decode cX8_part 14 = .ok (.bipush (-2), 2) := by decide +kernel
theorem dX8_part_16 : decode cX8_part 16 = .ok (.ireturn, 1) := by decide +kernel
theorem dX8_part_17 : decode cX8_part 17 = .ok (.iload_n 3, 1) := by decide +kernel
theorem dX8_part_18 : decode cX8_part 18 = .ok (.iconst 0, 1) := by decide +kernel
theorem dX8_part_19 : decode cX8_part 19 = .ok (.iconst 1, 1) := by decide +kernel
theorem dX8_part_20 : decode cX8_part 20 = .ok (.invokestatic 104, 3) := by decide +kernel
theorem dX8_part_23 : decode cX8_part 23 = .ok (.ifCond .ne 6, 3) := by decide +kernel
theorem dX8_part_26 : decode cX8_part 26 = .ok (.bipush (-3), 2) := by decide +kernel
theorem dX8_part_28 : decode cX8_part 28 = .ok (.ireturn, 1) := by decide +kernel
theorem dX8_part_29 : decode cX8_part 29 = .ok (.aload_n 0, 1) := by decide +kernel
theorem dX8_part_30 : decode cX8_part 30 = .ok (.iload_n 2, 1) := by decide +kernel
theorem dX8_part_31 : decode cX8_part 31 = .ok (.invokevirtual 244, 3) := by decide +kernel
theorem dX8_part_34 : decode cX8_part 34 = .ok (.iconst 0, 1) := by decide +kernel
theorem dX8_part_35 : decode cX8_part 35 = .ok (.istore 4, 2) := by decide +kernel
theorem dX8_part_37 : decode cX8_part 37 = .ok (.iload 4, 2) := by decide +kernel
theorem dX8_part_39 : decode cX8_part 39 = .ok (.bipush 9, 2) := by decide +kernel
theorem dX8_part_41 : decode cX8_part 41 = .ok (.if_icmp .ge 51, 3) := by decide +kernel
theorem dX8_part_44 : decode cX8_part 44 = .ok (.iload_n 3, 1) := by decide +kernel
theorem dX8_part_45 : decode cX8_part 45 = .ok (.ifCond .ne 23, 3) := by decide +kernel
theorem dX8_part_48 : decode cX8_part 48 = .ok (.aload_n 0, 1) := by decide +kernel
theorem dX8_part_49 : decode cX8_part 49 = .ok (.getfield 77, 3) := by decide +kernel
theorem dX8_part_52 : decode cX8_part 52 = .ok (.iload 4, 2) := by decide +kernel
theorem dX8_part_54 : decode cX8_part 54 = .ok (.iload 4, 2) := by decide +kernel
theorem dX8_part_56 : decode cX8_part 56 = .ok (.ifCond .ne 7, 3) := by decide +kernel
theorem dX8_part_59 : decode cX8_part 59 = .ok (.iconst 1, 1) := by decide +kernel
theorem dX8_part_60 : decode cX8_part 60 = .ok (.goto 4, 3) := by decide +kernel
theorem dX8_part_63 : decode cX8_part 63 = .ok (.iconst 0, 1) := by decide +kernel
theorem dX8_part_64 : decode cX8_part 64 = .ok (.iastore, 1) := by decide +kernel
theorem dX8_part_65 : decode cX8_part 65 = .ok (.goto 21, 3) := by decide +kernel
theorem dX8_part_68 : decode cX8_part 68 = .ok (.aload_n 0, 1) := by decide +kernel
theorem dX8_part_69 : decode cX8_part 69 = .ok (.getfield 80, 3) := by decide +kernel
theorem dX8_part_72 : decode cX8_part 72 = .ok (.iload 4, 2) := by decide +kernel
theorem dX8_part_74 : decode cX8_part 74 = .ok (.iload 4, 2) := by decide +kernel
theorem dX8_part_76 : decode cX8_part 76 = .ok (.iconst 1, 1) := by decide +kernel
theorem dX8_part_77 : decode cX8_part 77 = .ok (.if_icmp .ne 7, 3) := by decide +kernel
theorem dX8_part_80 : decode cX8_part 80 = .ok (.iconst 1, 1) := by decide +kernel
theorem dX8_part_81 : decode cX8_part 81 = .ok (.goto 4, 3) := by decide +kernel
theorem dX8_part_84 : decode cX8_part 84 = .ok (.iconst 0, 1) := by decide +kernel
theorem dX8_part_85 : decode cX8_part 85 = .ok (.iastore, 1) := by decide +kernel
theorem dX8_part_86 : decode cX8_part 86 = .ok (.iinc 4 1, 3) := by decide +kernel
theorem dX8_part_89 : decode cX8_part 89 = .ok (.goto (-52), 3) := by decide +kernel
theorem dX8_part_92 : decode cX8_part 92 = .ok (.aload_n 0, 1) := by decide +kernel
theorem dX8_part_93 : decode cX8_part 93 = .ok (.iload_n 1, 1) := by decide +kernel
theorem dX8_part_94 : decode cX8_part 94 = .ok (.aload_n 0, 1) := by decide +kernel
theorem dX8_part_95 : decode cX8_part 95 = .ok (.getfield 77, 3) := by decide +kernel
theorem dX8_part_98 : decode cX8_part 98 = .ok (.aload_n 0, 1) := by decide +kernel
theorem dX8_part_99 : decode cX8_part 99 = .ok (.getfield 80, 3) := by decide +kernel
theorem dX8_part_102 : decode cX8_part 102 = .ok (.invokevirtual 237, 3) := by decide +kernel
theorem dX8_part_105 : decode cX8_part 105 = .ok (.ireturn, 1) := by decide +kernel
theorem dX8_move_0 : decode cX8_move 0 = .ok (.iload_n 1, 1) := by decide +kernel
theorem dX8_move_1 : decode cX8_move 1 = .ok (.invokestatic 234, 3) := by decide +kernel
theorem dX8_move_4 : decode cX8_move 4 = .ok (.ifCond .eq 10, 3) := by decide +kernel
theorem dX8_move_7 : decode cX8_move 7 = .ok (.iload_n 2, 1) := by decide +kernel
theorem dX8_move_8 : decode cX8_move 8 = .ok (.invokestatic 234, 3) := by decide +kernel
theorem dX8_move_11 : decode cX8_move 11 = .ok (.ifCond .ne 6, 3) := by decide +kernel
theorem dX8_move_14 : decode cX8_move 14 = .ok (.bipush (-2), 2) := by decide +kernel
theorem dX8_move_16 : decode cX8_move 16 = .ok (.ireturn, 1) := by decide +kernel
theorem dX8_move_17 : decode cX8_move 17 = .ok (.iload_n 3, 1) := by decide +kernel
theorem dX8_move_18 : decode cX8_move 18 = .ok (.invokestatic 247, 3) := by decide +kernel
theorem dX8_move_21 : decode cX8_move 21 = .ok (.ifCond .ne 6, 3) := by decide +kernel
theorem dX8_move_24 : decode cX8_move 24 = .ok (.bipush (-3), 2) := by decide +kernel
theorem dX8_move_26 : decode cX8_move 26 = .ok (.ireturn, 1) := by decide +kernel
theorem dX8_move_27 : decode cX8_move 27 = .ok (.aload_n 0, 1) := by decide +kernel
theorem dX8_move_28 : decode cX8_move 28 = .ok (.iload_n 2, 1) := by decide +kernel
theorem dX8_move_29 : decode cX8_move 29 = .ok (.invokevirtual 244, 3) := by decide +kernel
theorem dX8_move_32 : decode cX8_move 32 = .ok (.aload_n 0, 1) := by decide +kernel
theorem dX8_move_33 : decode cX8_move 33 = .ok (.iconst 0, 1) := by decide +kernel
theorem dX8_move_34 : decode cX8_move 34 = .ok (.iconst 0, 1) := by decide +kernel
theorem dX8_move_35 : decode cX8_move 35 = .ok (.iload_n 3, 1) := by decide +kernel
theorem dX8_move_36 : decode cX8_move 36 = .ok (.invokestatic 130, 3) := by decide +kernel
theorem dX8_move_39 : decode cX8_move 39 = .ok (.invokevirtual 192, 3) := by decide +kernel
theorem dX8_move_42 : decode cX8_move 42 = .ok (.aload_n 0, 1) := by decide +kernel
theorem dX8_move_43 : decode cX8_move 43 = .ok (.bipush 101, 2) := by decide +kernel
theorem dX8_move_45 : decode cX8_move 45 = .ok (.aload_n 0, 1) := by decide +kernel
theorem dX8_move_46 : decode cX8_move 46 = .ok (.getfield 50, 3) := by decide +kernel
theorem dX8_move_49 : decode cX8_move 49 = .ok (.invokevirtual 178, 3) := by decide +kernel
theorem dX8_move_52 : decode cX8_move 52 = .ok (.aload_n 0, 1) := by decide +kernel
theorem dX8_move_53 : decode cX8_move 53 = .ok (.aload_n 0, 1) := by decide +kernel
theorem dX8_move_54 : decode cX8_move 54 = .ok (.getfield 77, 3) := by decide +kernel
theorem dX8_move_57 : decode cX8_move 57 = .ok (.iconst 0, 1) := by decide +kernel
theorem dX8_move_58 : decode cX8_move 58 = .ok (.aload_n 0, 1) := by decide +kernel
theorem dX8_move_59 : decode cX8_move 59 = .ok (.getfield 50, 3) := by decide +kernel
theorem dX8_move_62 : decode cX8_move 62 = .ok (.iconst 0, 1) := by decide +kernel
theorem dX8_move_63 : decode cX8_move 63 = .ok (.aload_n 0, 1) := by decide +kernel
theorem dX8_move_64 : decode cX8_move 64 = .ok (.getfield 77, 3) := by decide +kernel
theorem dX8_move_67 : decode cX8_move 67 = .ok (.invokevirtual 133, 3) := by decide +kernel
theorem dX8_move_70 : decode cX8_move 70 = .ok (.aload_n 0, 1) := by decide +kernel
theorem dX8_move_71 : decode cX8_move 71 = .ok (.iload_n 1, 1) := by decide +kernel
theorem dX8_move_72 : decode cX8_move 72 = .ok (.aload_n 0, 1) := by decide +kernel
theorem dX8_move_73 : decode cX8_move 73 = .ok (.getfield 77, 3) := by decide +kernel
theorem dX8_move_76 : decode cX8_move 76 = .ok (.aload_n 0, 1) := by decide +kernel
theorem dX8_move_77 : decode cX8_move 77 = .ok (.getfield 80, 3) := by decide +kernel
theorem dX8_move_80 : decode cX8_move 80 = .ok (.invokevirtual 237, 3) := by decide +kernel
theorem dX8_move_83 : decode cX8_move 83 = .ok (.ireturn, 1) := by decide +kernel
theorem dX8_stretch_0 : decode cX8_stretch 0 = .ok (.iload_n 1, 1) := by decide +kernel
theorem dX8_stretch_1 : decode cX8_stretch 1 = .ok (.invokestatic 234, 3) := by decide +kernel
theorem dX8_stretch_4 : decode cX8_stretch 4 = .ok (.ifCond .eq 10, 3) := by decide +kernel
theorem dX8_stretch_7 : decode cX8_stretch 7 = .ok (.iload_n 2, 1) := by decide +kernel
theorem dX8_stretch_8 : decode cX8_stretch 8 = .ok (.invokestatic 234, 3) := by decide +kernel
theorem dX8_stretch_11 : decode cX8_stretch 11 = .ok (.ifCond .ne 6, 3) := by decide +kernel
theorem dX8_stretch_14 : decode cX8_stretch 14 = .ok (.bipush (-2), 2) := by decide +kernel
theorem dX8_stretch_16 : decode cX8_stretch 16 = .ok (.ireturn, 1) := by decide +kernel
theorem dX8_stretch_17 : decode cX8_stretch 17 = .ok (.iload_n 3, 1) := by decide +kernel
theorem dX8_stretch_18 : decode cX8_stretch 18 = .ok (.iconst 1, 1) := by decide +kernel
theorem dX8_stretch_19 : decode cX8_stretch 19 = .ok (.sipush 9972, 3) := by decide +kernel
theorem dX8_stretch_22 : decode cX8_stretch 22 = .ok (.invokestatic 104, 3) := by decide +kernel
theorem dX8_stretch_25 : decode cX8_stretch 25 = .ok (.ifCond .ne 6, 3) := by decide +kernel
theorem dX8_stretch_28 : decode cX8_stretch 28 = .ok (.bipush (-3), 2) := by decide +kernel
theorem dX8_stretch_30 : decode cX8_stretch 30 = .ok (.ireturn, 1) := by decide +kernel
theorem dX8_stretch_31 : decode cX8_stretch 31 = .ok (.aload_n 0, 1) := by decide +kernel
theorem dX8_stretch_32 : decode cX8_stretch 32 = .ok (.iload_n 2, 1) := by decide +kernel
theorem dX8_stretch_33 : decode cX8_stretch 33 = .ok (.invokevirtual 244, 3) := by decide +kernel
theorem dX8_stretch_36 : decode cX8_stretch 36 = .ok (.iconst 1, 1) := by decide +kernel
theorem dX8_stretch_37 : decode cX8_stretch 37 = .ok (.istore 4, 2) := by decide +kernel
theorem dX8_stretch_39 : decode cX8_stretch 39 = .ok (.iconst 0, 1) := by decide +kernel
theorem dX8_stretch_40 : decode cX8_stretch 40 = .ok (.istore 5, 2) := by decide +kernel
theorem dX8_stretch_42 : decode cX8_stretch 42 = .ok (.iload 5, 2) := by decide +kernel
theorem dX8_stretch_44 : decode cX8_stretch 44 = .ok (.bipush 9, 2) := by decide +kernel
theorem dX8_stretch_46 : decode cX8_stretch 46 = .ok (.if_icmp .ge 58, 3) := by decide +kernel
theorem dX8_stretch_49 : decode cX8_stretch 49 = .ok (.aload_n 0, 1) := by decide +kernel
theorem dX8_stretch_50 : decode cX8_stretch 50 = .ok (.getfield 77, 3) := by decide +kernel
theorem dX8_stretch_53 : decode cX8_stretch 53 = .ok (.iload 5, 2) := by decide +kernel
theorem dX8_stretch_55 : decode cX8_stretch 55 = .ok (.aload_n 0, 1) := by decide +kernel
theorem dX8_stretch_56 : decode cX8_stretch 56 = .ok (.getfield 77, 3) := by decide +kernel
theorem dX8_stretch_59 : decode cX8_stretch 59 = .ok (.iload 5, 2) := by decide +kernel
theorem dX8_stretch_61 : decode cX8_stretch 61 = .ok (.iaload, 1) := by decide +kernel
theorem dX8_stretch_62 : decode cX8_stretch 62 = .ok (.iload 4, 2) := by decide +kernel
theorem dX8_stretch_64 : decode cX8_stretch 64 = .ok (.invokestatic 108, 3) := by decide +kernel
theorem dX8_stretch_67 : decode cX8_stretch 67 = .ok (.iastore, 1) := by decide +kernel
theorem dX8_stretch_68 : decode cX8_stretch 68 = .ok (.aload_n 0, 1) := by decide +kernel
theorem dX8_stretch_69 : decode cX8_stretch 69 = .ok (.getfield 80, 3) := by decide +kernel
theorem dX8_stretch_72 : decode cX8_stretch 72 = .ok (.iload 5, 2) := by decide +kernel
theorem dX8_stretch_74 : decode cX8_stretch 74 = .ok (.aload_n 0, 1) := by decide +kernel
theorem dX8_stretch_75 : decode cX8_stretch 75 = .ok (.getfield 80, 3) := by decide +kernel
theorem dX8_stretch_78 : decode cX8_stretch 78 = .ok (.iload 5, 2) := by decide +kernel
theorem dX8_stretch_80 : decode cX8_stretch 80 = .ok (.iaload, 1) := by decide +kernel
theorem dX8_stretch_81 : decode cX8_stretch 81 = .ok (.iload 4, 2) := by decide +kernel
theorem dX8_stretch_83 : decode cX8_stretch 83 = .ok (.invokestatic 108, 3) := by decide +kernel
theorem dX8_stretch_86 : decode cX8_stretch 86 = .ok (.iastore, 1) := by decide +kernel
theorem dX8_stretch_87 : decode cX8_stretch 87 = .ok (.iload 4, 2) := by decide +kernel
theorem dX8_stretch_89 : decode cX8_stretch 89 = .ok (.iload_n 3, 1) := by decide +kernel
theorem dX8_stretch_90 : decode cX8_stretch 90 = .ok (.invokestatic 126, 3) := by decide +kernel
theorem dX8_stretch_93 : decode cX8_stretch 93 = .ok (.invokestatic 108, 3) := by decide +kernel
theorem dX8_stretch_96 : decode cX8_stretch 96 = .ok (.istore 4, 2) := by decide +kernel
theorem dX8_stretch_98 : decode cX8_stretch 98 = .ok (.iinc 5 1, 3) := by decide +kernel
theorem dX8_stretch_101 : decode cX8_stretch 101 = .ok (.goto (-59), 3) := by decide +kernel
theorem dX8_stretch_104 : decode cX8_stretch 104 = .ok (.aload_n 0, 1) := by decide +kernel
theorem dX8_stretch_105 : decode cX8_stretch 105 = .ok (.iload_n 1, 1) := by decide +kernel
theorem dX8_stretch_106 : decode cX8_stretch 106 = .ok (.aload_n 0, 1) := by decide +kernel
theorem dX8_stretch_107 : decode cX8_stretch 107 = .ok (.getfield 77, 3) := by decide +kernel
theorem dX8_stretch_110 : decode cX8_stretch 110 = .ok (.aload_n 0, 1) := by decide +kernel
theorem dX8_stretch_111 : decode cX8_stretch 111 = .ok (.getfield 80, 3) := by decide +kernel
theorem dX8_stretch_114 : decode cX8_stretch 114 = .ok (.invokevirtual 237, 3) := by decide +kernel
theorem dX8_stretch_117 : decode cX8_stretch 117 = .ok (.ireturn, 1) := by decide +kernel
theorem dX8_series_0 : decode cX8_series 0 = .ok (.iload_n 1, 1) := by decide +kernel
theorem dX8_series_1 : decode cX8_series 1 = .ok (.invokestatic 234, 3) := by decide +kernel
theorem dX8_series_4 : decode cX8_series 4 = .ok (.ifCond .ne 6, 3) := by decide +kernel
theorem dX8_series_7 : decode cX8_series 7 = .ok (.bipush (-2), 2) := by decide +kernel
theorem dX8_series_9 : decode cX8_series 9 = .ok (.ireturn, 1) := by decide +kernel
theorem dX8_series_10 : decode cX8_series 10 = .ok (.iload_n 2, 1) := by decide +kernel
theorem dX8_series_11 : decode cX8_series 11 = .ok (.iconst 0, 1) := by decide +kernel
theorem dX8_series_12 : decode cX8_series 12 = .ok (.iconst 3, 1) := by decide +kernel
theorem dX8_series_13 : decode cX8_series 13 = .ok (.invokestatic 104, 3) := by decide +kernel
theorem dX8_series_16 : decode cX8_series 16 = .ok (.ifCond .eq 10, 3) := by decide +kernel
theorem dX8_series_19 : decode cX8_series 19 = .ok (.iload_n 3, 1) := by decide +kernel
theorem dX8_series_20 : decode cX8_series 20 = .ok (.invokestatic 250, 3) := by decide +kernel
theorem dX8_series_23 : decode cX8_series 23 = .ok (.ifCond .ne 6, 3) := by decide +kernel
theorem dX8_series_26 : decode cX8_series 26 = .ok (.bipush (-3), 2) := by decide +kernel
theorem dX8_series_28 : decode cX8_series 28 = .ok (.ireturn, 1) := by decide +kernel
theorem dX8_series_29 : decode cX8_series 29 = .ok (.iload_n 2, 1) := by decide +kernel
theorem dX8_series_30 : decode cX8_series 30 = .ok (.iconst 2, 1) := by decide +kernel
theorem dX8_series_31 : decode cX8_series 31 = .ok (.if_icmp .ge 33, 3) := by decide +kernel
theorem dX8_series_34 : decode cX8_series 34 = .ok (.iload_n 2, 1) := by decide +kernel
theorem dX8_series_35 : decode cX8_series 35 = .ok (.ifCond .ne 17, 3) := by decide +kernel
theorem dX8_series_38 : decode cX8_series 38 = .ok (.aload_n 0, 1) := by decide +kernel
theorem dX8_series_39 : decode cX8_series 39 = .ok (.getfield 7, 3) := by decide +kernel
theorem dX8_series_42 : decode cX8_series 42 = .ok (.bipush 9, 2) := by decide +kernel
theorem dX8_series_44 : decode cX8_series 44 = .ok (.iload_n 1, 1) := by decide +kernel
theorem dX8_series_45 : decode cX8_series 45 = .ok (.imul, 1) := by decide +kernel
theorem dX8_series_46 : decode cX8_series 46 = .ok (.iload_n 3, 1) := by decide +kernel
theorem dX8_series_47 : decode cX8_series 47 = .ok (.iadd, 1) := by decide +kernel
theorem dX8_series_48 : decode cX8_series 48 = .ok (.iaload, 1) := by decide +kernel
theorem dX8_series_49 : decode cX8_series 49 = .ok (.goto 14, 3) := by decide +kernel
theorem dX8_series_52 : decode cX8_series 52 = .ok (.aload_n 0, 1) := by decide +kernel
theorem dX8_series_53 : decode cX8_series 53 = .ok (.getfield 13, 3) := by decide +kernel
theorem dX8_series_56 : decode cX8_series 56 = .ok (.bipush 9, 2) := by decide +kernel
theorem dX8_series_58 : decode cX8_series 58 = .ok (.iload_n 1, 1) := by decide +kernel
theorem dX8_series_59 : decode cX8_series 59 = .ok (.imul, 1) := by decide +kernel
theorem dX8_series_60 : decode cX8_series 60 = .ok (.iload_n 3, 1) := by decide +kernel
theorem dX8_series_61 : decode cX8_series 61 = .ok (.iadd, 1) := by decide +kernel
theorem dX8_series_62 : decode cX8_series 62 = .ok (.iaload, 1) := by decide +kernel
theorem dX8_series_63 : decode cX8_series 63 = .ok (.ireturn, 1) := by decide +kernel
theorem dX8_series_64 : decode cX8_series 64 = .ok (.aload_n 0, 1) := by decide +kernel
theorem dX8_series_65 : decode cX8_series 65 = .ok (.invokevirtual 241, 3) := by decide +kernel
theorem dX8_series_68 : decode cX8_series 68 = .ok (.iload_n 2, 1) := by decide +kernel
theorem dX8_series_69 : decode cX8_series 69 = .ok (.iconst 2, 1) := by decide +kernel
theorem dX8_series_70 : decode cX8_series 70 = .ok (.if_icmp .ne 31, 3) := by decide +kernel
theorem dX8_series_73 : decode cX8_series 73 = .ok (.aload_n 0, 1) := by decide +kernel
theorem dX8_series_74 : decode cX8_series 74 = .ok (.aload_n 0, 1) := by decide +kernel
theorem dX8_series_75 : decode cX8_series 75 = .ok (.getfield 83, 3) := by decide +kernel
theorem dX8_series_78 : decode cX8_series 78 = .ok (.iconst 0, 1) := by decide +kernel
theorem dX8_series_79 : decode cX8_series 79 = .ok (.aload_n 0, 1) := by decide +kernel
theorem dX8_series_80 : decode cX8_series 80 = .ok (.getfield 7, 3) := by decide +kernel
theorem dX8_series_83 : decode cX8_series 83 = .ok (.bipush 9, 2) := by decide +kernel
theorem dX8_series_85 : decode cX8_series 85 = .ok (.iload_n 1, 1) := by decide +kernel
theorem dX8_series_86 : decode cX8_series 86 = .ok (.imul, 1) := by decide +kernel
theorem dX8_series_87 : decode cX8_series 87 = .ok (.aload_n 0, 1) := by decide +kernel
theorem dX8_series_88 : decode cX8_series 88 = .ok (.getfield 77, 3) := by decide +kernel
theorem dX8_series_91 : decode cX8_series 91 = .ok (.invokevirtual 158, 3) := by decide +kernel
theorem dX8_series_94 : decode cX8_series 94 = .ok (.aload_n 0, 1) := by decide +kernel
theorem dX8_series_95 : decode cX8_series 95 = .ok (.getfield 77, 3) := by decide +kernel
theorem dX8_series_98 : decode cX8_series 98 = .ok (.iload_n 3, 1) := by decide +kernel
theorem dX8_series_99 : decode cX8_series 99 = .ok (.iaload, 1) := by decide +kernel
theorem dX8_series_100 : decode cX8_series 100 = .ok (.ireturn, 1) := by decide +kernel
theorem dX8_series_101 : decode cX8_series 101 = .ok (.aload_n 0, 1) := by decide +kernel
theorem dX8_series_102 : decode cX8_series 102 = .ok (.aload_n 0, 1) := by decide +kernel
theorem dX8_series_103 : decode cX8_series 103 = .ok (.getfield 13, 3) := by decide +kernel
theorem dX8_series_106 : decode cX8_series 106 = .ok (.bipush 9, 2) := by decide +kernel
theorem dX8_series_108 : decode cX8_series 108 = .ok (.iload_n 1, 1) := by decide +kernel
theorem dX8_series_109 : decode cX8_series 109 = .ok (.imul, 1) := by decide +kernel
theorem dX8_series_110 : decode cX8_series 110 = .ok (.aload_n 0, 1) := by decide +kernel
theorem dX8_series_111 : decode cX8_series 111 = .ok (.getfield 80, 3) := by decide +kernel
theorem dX8_series_114 : decode cX8_series 114 = .ok (.invokevirtual 171, 3) := by decide +kernel
theorem dX8_series_117 : decode cX8_series 117 = .ok (.aload_n 0, 1) := by decide +kernel
theorem dX8_series_118 : decode cX8_series 118 = .ok (.getfield 80, 3) := by decide +kernel
theorem dX8_series_121 : decode cX8_series 121 = .ok (.iload_n 3, 1) := by decide +kernel
theorem dX8_series_122 : decode cX8_series 122 = .ok (.iaload, 1) := by decide +kernel
theorem dX8_series_123 : decode cX8_series 123 = .ok (.ireturn, 1) := by decide +kernel
theorem dX8_falls_0 : decode cX8_falls 0 = .ok (.iconst 1, 1) := by decide +kernel
theorem dX8_falls_1 : decode cX8_falls 1 = .ok (.istore_n 2, 1) := by decide +kernel
theorem dX8_falls_2 : decode cX8_falls 2 = .ok (.iconst 1, 1) := by decide +kernel
theorem dX8_falls_3 : decode cX8_falls 3 = .ok (.istore_n 3, 1) := by decide +kernel
theorem dX8_falls_4 : decode cX8_falls 4 = .ok (.iload_n 3, 1) := by decide +kernel
theorem dX8_falls_5 : decode cX8_falls 5 = .ok (.iload_n 1, 1) := by decide +kernel
theorem dX8_falls_6 : decode cX8_falls 6 = .ok (.if_icmp .gt 17, 3) := by decide +kernel
theorem dX8_falls_9 : decode cX8_falls 9 = .ok (.iload_n 2, 1) := by decide +kernel
theorem dX8_falls_10 : decode cX8_falls 10 = .ok (.iload_n 0, 1) := by decide +kernel
theorem dX8_falls_11 : decode cX8_falls 11 = .ok (.iload_n 3, 1) := by decide +kernel
theorem dX8_falls_12 : decode cX8_falls 12 = .ok (.iadd, 1) := by decide +kernel
theorem dX8_falls_13 : decode cX8_falls 13 = .ok (.invokestatic 108, 3) := by decide +kernel
theorem dX8_falls_16 : decode cX8_falls 16 = .ok (.istore_n 2, 1) := by decide +kernel
theorem dX8_falls_17 : decode cX8_falls 17 = .ok (.iinc 3 1, 3) := by decide +kernel
theorem dX8_falls_20 : decode cX8_falls 20 = .ok (.goto (-16), 3) := by decide +kernel
theorem dX8_falls_23 : decode cX8_falls 23 = .ok (.iload_n 2, 1) := by decide +kernel
theorem dX8_falls_24 : decode cX8_falls 24 = .ok (.ireturn, 1) := by decide +kernel
theorem dX8_solves_0 : decode cX8_solves 0 = .ok (.bipush 9, 2) := by decide +kernel
theorem dX8_solves_2 : decode cX8_solves 2 = .ok (.iload_n 1, 1) := by decide +kernel
theorem dX8_solves_3 : decode cX8_solves 3 = .ok (.imul, 1) := by decide +kernel
theorem dX8_solves_4 : decode cX8_solves 4 = .ok (.istore 4, 2) := by decide +kernel
theorem dX8_solves_6 : decode cX8_solves 6 = .ok (.bipush 7, 2) := by decide +kernel
theorem dX8_solves_8 : decode cX8_solves 8 = .ok (.istore 5, 2) := by decide +kernel
theorem dX8_solves_10 : decode cX8_solves 10 = .ok (.iload 5, 2) := by decide +kernel
theorem dX8_solves_12 : decode cX8_solves 12 = .ok (.ifCond .lt 101, 3) := by decide +kernel
theorem dX8_solves_15 : decode cX8_solves 15 = .ok (.aload_n 2, 1) := by decide +kernel
theorem dX8_solves_16 : decode cX8_solves 16 = .ok (.iload 5, 2) := by decide +kernel
theorem dX8_solves_18 : decode cX8_solves 18 = .ok (.iaload, 1) := by decide +kernel
theorem dX8_solves_19 : decode cX8_solves 19 = .ok (.istore 6, 2) := by decide +kernel
theorem dX8_solves_21 : decode cX8_solves 21 = .ok (.iconst 2, 1) := by decide +kernel
theorem dX8_solves_22 : decode cX8_solves 22 = .ok (.istore 7, 2) := by decide +kernel
theorem dX8_solves_24 : decode cX8_solves 24 = .ok (.iload 5, 2) := by decide +kernel
theorem dX8_solves_26 : decode cX8_solves 26 = .ok (.iload 7, 2) := by decide +kernel
theorem dX8_solves_28 : decode cX8_solves 28 = .ok (.iadd, 1) := by decide +kernel
theorem dX8_solves_29 : decode cX8_solves 29 = .ok (.bipush 9, 2) := by decide +kernel
theorem dX8_solves_31 : decode cX8_solves 31 = .ok (.if_icmp .ge 46, 3) := by decide +kernel
theorem dX8_solves_34 : decode cX8_solves 34 = .ok (.iload 6, 2) := by decide +kernel
theorem dX8_solves_36 : decode cX8_solves 36 = .ok (.aload_n 0, 1) := by decide +kernel
theorem dX8_solves_37 : decode cX8_solves 37 = .ok (.getfield 13, 3) := by decide +kernel
theorem dX8_solves_40 : decode cX8_solves 40 = .ok (.iload 4, 2) := by decide +kernel
theorem dX8_solves_42 : decode cX8_solves 42 = .ok (.iload 7, 2) := by decide +kernel
theorem dX8_solves_44 : decode cX8_solves 44 = .ok (.iadd, 1) := by decide +kernel
theorem dX8_solves_45 : decode cX8_solves 45 = .ok (.iaload, 1) := by decide +kernel
theorem dX8_solves_46 : decode cX8_solves 46 = .ok (.iload 5, 2) := by decide +kernel
theorem dX8_solves_48 : decode cX8_solves 48 = .ok (.iload 7, 2) := by decide +kernel
theorem dX8_solves_50 : decode cX8_solves 50 = .ok (.invokestatic 253, 3) := by decide +kernel
theorem dX8_solves_53 : decode cX8_solves 53 = .ok (.aload_n 3, 1) := by decide +kernel
theorem dX8_solves_54 : decode cX8_solves 54 = .ok (.iload 5, 2) := by decide +kernel
theorem dX8_solves_56 : decode cX8_solves 56 = .ok (.iload 7, 2) := by decide +kernel
theorem dX8_solves_58 : decode cX8_solves 58 = .ok (.iadd, 1) := by decide +kernel
theorem dX8_solves_59 : decode cX8_solves 59 = .ok (.iaload, 1) := by decide +kernel
theorem dX8_solves_60 : decode cX8_solves 60 = .ok (.invokestatic 108, 3) := by decide +kernel
theorem dX8_solves_63 : decode cX8_solves 63 = .ok (.invokestatic 108, 3) := by decide +kernel
theorem dX8_solves_66 : decode cX8_solves 66 = .ok (.invokestatic 130, 3) := by decide +kernel
theorem dX8_solves_69 : decode cX8_solves 69 = .ok (.istore 6, 2) := by decide +kernel
theorem dX8_solves_71 : decode cX8_solves 71 = .ok (.iinc 7 1, 3) := by decide +kernel
theorem dX8_solves_74 : decode cX8_solves 74 = .ok (.goto (-50), 3) := by decide +kernel
theorem dX8_solves_77 : decode cX8_solves 77 = .ok (.aload_n 3, 1) := by decide +kernel
theorem dX8_solves_78 : decode cX8_solves 78 = .ok (.iload 5, 2) := by decide +kernel
theorem dX8_solves_80 : decode cX8_solves 80 = .ok (.iconst 1, 1) := by decide +kernel
theorem dX8_solves_81 : decode cX8_solves 81 = .ok (.iadd, 1) := by decide +kernel
theorem dX8_solves_82 : decode cX8_solves 82 = .ok (.iload 6, 2) := by decide +kernel
theorem dX8_solves_84 : decode cX8_solves 84 = .ok (.aload_n 0, 1) := by decide +kernel
theorem dX8_solves_85 : decode cX8_solves 85 = .ok (.getfield 13, 3) := by decide +kernel
theorem dX8_solves_88 : decode cX8_solves 88 = .ok (.iload 4, 2) := by decide +kernel
theorem dX8_solves_90 : decode cX8_solves 90 = .ok (.iconst 1, 1) := by decide +kernel
theorem dX8_solves_91 : decode cX8_solves 91 = .ok (.iadd, 1) := by decide +kernel
theorem dX8_solves_92 : decode cX8_solves 92 = .ok (.iaload, 1) := by decide +kernel
theorem dX8_solves_93 : decode cX8_solves 93 = .ok (.iload 5, 2) := by decide +kernel
theorem dX8_solves_95 : decode cX8_solves 95 = .ok (.iconst 1, 1) := by decide +kernel
theorem dX8_solves_96 : decode cX8_solves 96 = .ok (.iadd, 1) := by decide +kernel
theorem dX8_solves_97 : decode cX8_solves 97 = .ok (.invokestatic 108, 3) := by decide +kernel
theorem dX8_solves_100 : decode cX8_solves 100 = .ok (.invokestatic 126, 3) := by decide +kernel
theorem dX8_solves_103 : decode cX8_solves 103 = .ok (.invokestatic 108, 3) := by decide +kernel
theorem dX8_solves_106 : decode cX8_solves 106 = .ok (.iastore, 1) := by decide +kernel
theorem dX8_solves_107 : decode cX8_solves 107 = .ok (.iinc 5 (-1), 3) := by decide +kernel
theorem dX8_solves_110 : decode cX8_solves 110 = .ok (.goto (-100), 3) := by decide +kernel
theorem dX8_solves_113 : decode cX8_solves 113 = .ok (.return_, 1) := by decide +kernel
theorem dX8_laysRow_0 : decode cX8_laysRow 0 = .ok (.bipush 9, 2) := by decide +kernel
theorem dX8_laysRow_2 : decode cX8_laysRow 2 = .ok (.iload_n 1, 1) := by decide +kernel
theorem dX8_laysRow_3 : decode cX8_laysRow 3 = .ok (.imul, 1) := by decide +kernel
theorem dX8_laysRow_4 : decode cX8_laysRow 4 = .ok (.istore_n 3, 1) := by decide +kernel
theorem dX8_laysRow_5 : decode cX8_laysRow 5 = .ok (.iconst 0, 1) := by decide +kernel
theorem dX8_laysRow_6 : decode cX8_laysRow 6 = .ok (.istore 4, 2) := by decide +kernel
theorem dX8_laysRow_8 : decode cX8_laysRow 8 = .ok (.iload 4, 2) := by decide +kernel
theorem dX8_laysRow_10 : decode cX8_laysRow 10 = .ok (.bipush 9, 2) := by decide +kernel
theorem dX8_laysRow_12 : decode cX8_laysRow 12 = .ok (.if_icmp .ge 179, 3) := by decide +kernel
theorem dX8_laysRow_15 : decode cX8_laysRow 15 = .ok (.iconst 0, 1) := by decide +kernel
theorem dX8_laysRow_16 : decode cX8_laysRow 16 = .ok (.istore 5, 2) := by decide +kernel
theorem dX8_laysRow_18 : decode cX8_laysRow 18 = .ok (.iload 5, 2) := by decide +kernel
theorem dX8_laysRow_20 : decode cX8_laysRow 20 = .ok (.bipush 9, 2) := by decide +kernel
theorem dX8_laysRow_22 : decode cX8_laysRow 22 = .ok (.if_icmp .ge 51, 3) := by decide +kernel
theorem dX8_laysRow_25 : decode cX8_laysRow 25 = .ok (.aload_n 0, 1) := by decide +kernel
theorem dX8_laysRow_26 : decode cX8_laysRow 26 = .ok (.getfield 92, 3) := by decide +kernel
theorem dX8_laysRow_29 : decode cX8_laysRow 29 = .ok (.iload 5, 2) := by decide +kernel
theorem dX8_laysRow_31 : decode cX8_laysRow 31 = .ok (.iload 4, 2) := by decide +kernel
theorem dX8_laysRow_33 : decode cX8_laysRow 33 = .ok (.ifCond .ne 7, 3) := by decide +kernel
theorem dX8_laysRow_36 : decode cX8_laysRow 36 = .ok (.iconst 0, 1) := by decide +kernel
theorem dX8_laysRow_37 : decode cX8_laysRow 37 = .ok (.goto 21, 3) := by decide +kernel
theorem dX8_laysRow_40 : decode cX8_laysRow 40 = .ok (.iload 4, 2) := by decide +kernel
theorem dX8_laysRow_42 : decode cX8_laysRow 42 = .ok (.aload_n 2, 1) := by decide +kernel
theorem dX8_laysRow_43 : decode cX8_laysRow 43 = .ok (.bipush 9, 2) := by decide +kernel
theorem dX8_laysRow_45 : decode cX8_laysRow 45 = .ok (.iload 4, 2) := by decide +kernel
theorem dX8_laysRow_47 : decode cX8_laysRow 47 = .ok (.imul, 1) := by decide +kernel
theorem dX8_laysRow_48 : decode cX8_laysRow 48 = .ok (.bipush 9, 2) := by decide +kernel
theorem dX8_laysRow_50 : decode cX8_laysRow 50 = .ok (.isub, 1) := by decide +kernel
theorem dX8_laysRow_51 : decode cX8_laysRow 51 = .ok (.iload 5, 2) := by decide +kernel
theorem dX8_laysRow_53 : decode cX8_laysRow 53 = .ok (.iadd, 1) := by decide +kernel
theorem dX8_laysRow_54 : decode cX8_laysRow 54 = .ok (.iaload, 1) := by decide +kernel
theorem dX8_laysRow_55 : decode cX8_laysRow 55 = .ok (.invokestatic 108, 3) := by decide +kernel
theorem dX8_laysRow_58 : decode cX8_laysRow 58 = .ok (.iastore, 1) := by decide +kernel
theorem dX8_laysRow_59 : decode cX8_laysRow 59 = .ok (.aload_n 0, 1) := by decide +kernel
theorem dX8_laysRow_60 : decode cX8_laysRow 60 = .ok (.getfield 95, 3) := by decide +kernel
theorem dX8_laysRow_63 : decode cX8_laysRow 63 = .ok (.iload 5, 2) := by decide +kernel
theorem dX8_laysRow_65 : decode cX8_laysRow 65 = .ok (.iconst 0, 1) := by decide +kernel
theorem dX8_laysRow_66 : decode cX8_laysRow 66 = .ok (.iastore, 1) := by decide +kernel
theorem dX8_laysRow_67 : decode cX8_laysRow 67 = .ok (.iinc 5 1, 3) := by decide +kernel
theorem dX8_laysRow_70 : decode cX8_laysRow 70 = .ok (.goto (-52), 3) := by decide +kernel
theorem dX8_laysRow_73 : decode cX8_laysRow 73 = .ok (.aload_n 0, 1) := by decide +kernel
theorem dX8_laysRow_74 : decode cX8_laysRow 74 = .ok (.iload_n 1, 1) := by decide +kernel
theorem dX8_laysRow_75 : decode cX8_laysRow 75 = .ok (.aload_n 0, 1) := by decide +kernel
theorem dX8_laysRow_76 : decode cX8_laysRow 76 = .ok (.getfield 92, 3) := by decide +kernel
theorem dX8_laysRow_79 : decode cX8_laysRow 79 = .ok (.aload_n 0, 1) := by decide +kernel
theorem dX8_laysRow_80 : decode cX8_laysRow 80 = .ok (.getfield 95, 3) := by decide +kernel
theorem dX8_laysRow_83 : decode cX8_laysRow 83 = .ok (.invokevirtual 256, 3) := by decide +kernel
theorem dX8_laysRow_86 : decode cX8_laysRow 86 = .ok (.iload 4, 2) := by decide +kernel
theorem dX8_laysRow_88 : decode cX8_laysRow 88 = .ok (.ifCond .ne 7, 3) := by decide +kernel
theorem dX8_laysRow_91 : decode cX8_laysRow 91 = .ok (.iconst 1, 1) := by decide +kernel
theorem dX8_laysRow_92 : decode cX8_laysRow 92 = .ok (.goto 4, 3) := by decide +kernel
theorem dX8_laysRow_95 : decode cX8_laysRow 95 = .ok (.iconst 0, 1) := by decide +kernel
theorem dX8_laysRow_96 : decode cX8_laysRow 96 = .ok (.istore 5, 2) := by decide +kernel
theorem dX8_laysRow_98 : decode cX8_laysRow 98 = .ok (.iconst 1, 1) := by decide +kernel
theorem dX8_laysRow_99 : decode cX8_laysRow 99 = .ok (.istore 6, 2) := by decide +kernel
theorem dX8_laysRow_101 : decode cX8_laysRow 101 = .ok (.iload 6, 2) := by decide +kernel
theorem dX8_laysRow_103 : decode cX8_laysRow 103 = .ok (.bipush 9, 2) := by decide +kernel
theorem dX8_laysRow_105 : decode cX8_laysRow 105 = .ok (.if_icmp .ge 44, 3) := by decide +kernel
theorem dX8_laysRow_108 : decode cX8_laysRow 108 = .ok (.iload 5, 2) := by decide +kernel
theorem dX8_laysRow_110 : decode cX8_laysRow 110 = .ok (.aload_n 0, 1) := by decide +kernel
theorem dX8_laysRow_111 : decode cX8_laysRow 111 = .ok (.getfield 7, 3) := by decide +kernel
theorem dX8_laysRow_114 : decode cX8_laysRow 114 = .ok (.iload_n 3, 1) := by decide +kernel
theorem dX8_laysRow_115 : decode cX8_laysRow 115 = .ok (.iload 6, 2) := by decide +kernel
theorem dX8_laysRow_117 : decode cX8_laysRow 117 = .ok (.iadd, 1) := by decide +kernel
theorem dX8_laysRow_118 : decode cX8_laysRow 118 = .ok (.iaload, 1) := by decide +kernel
theorem dX8_laysRow_119 : decode cX8_laysRow 119 = .ok (.iconst 0, 1) := by decide +kernel
theorem dX8_laysRow_120 : decode cX8_laysRow 120 = .ok (.iload 6, 2) := by decide +kernel
theorem dX8_laysRow_122 : decode cX8_laysRow 122 = .ok (.invokestatic 253, 3) := by decide +kernel
theorem dX8_laysRow_125 : decode cX8_laysRow 125 = .ok (.aload_n 0, 1) := by decide +kernel
theorem dX8_laysRow_126 : decode cX8_laysRow 126 = .ok (.getfield 95, 3) := by decide +kernel
theorem dX8_laysRow_129 : decode cX8_laysRow 129 = .ok (.iload 6, 2) := by decide +kernel
theorem dX8_laysRow_131 : decode cX8_laysRow 131 = .ok (.iaload, 1) := by decide +kernel
theorem dX8_laysRow_132 : decode cX8_laysRow 132 = .ok (.invokestatic 108, 3) := by decide +kernel
theorem dX8_laysRow_135 : decode cX8_laysRow 135 = .ok (.invokestatic 108, 3) := by decide +kernel
theorem dX8_laysRow_138 : decode cX8_laysRow 138 = .ok (.invokestatic 130, 3) := by decide +kernel
theorem dX8_laysRow_141 : decode cX8_laysRow 141 = .ok (.istore 5, 2) := by decide +kernel
theorem dX8_laysRow_143 : decode cX8_laysRow 143 = .ok (.iinc 6 1, 3) := by decide +kernel
theorem dX8_laysRow_146 : decode cX8_laysRow 146 = .ok (.goto (-45), 3) := by decide +kernel
theorem dX8_laysRow_149 : decode cX8_laysRow 149 = .ok (.aload_n 0, 1) := by decide +kernel
theorem dX8_laysRow_150 : decode cX8_laysRow 150 = .ok (.getfield 95, 3) := by decide +kernel
theorem dX8_laysRow_153 : decode cX8_laysRow 153 = .ok (.iconst 0, 1) := by decide +kernel
theorem dX8_laysRow_154 : decode cX8_laysRow 154 = .ok (.iload 5, 2) := by decide +kernel
theorem dX8_laysRow_156 : decode cX8_laysRow 156 = .ok (.aload_n 0, 1) := by decide +kernel
theorem dX8_laysRow_157 : decode cX8_laysRow 157 = .ok (.getfield 7, 3) := by decide +kernel
theorem dX8_laysRow_160 : decode cX8_laysRow 160 = .ok (.iload_n 3, 1) := by decide +kernel
theorem dX8_laysRow_161 : decode cX8_laysRow 161 = .ok (.iaload, 1) := by decide +kernel
theorem dX8_laysRow_162 : decode cX8_laysRow 162 = .ok (.invokestatic 126, 3) := by decide +kernel
theorem dX8_laysRow_165 : decode cX8_laysRow 165 = .ok (.invokestatic 108, 3) := by decide +kernel
theorem dX8_laysRow_168 : decode cX8_laysRow 168 = .ok (.iastore, 1) := by decide +kernel
theorem dX8_laysRow_169 : decode cX8_laysRow 169 = .ok (.aload_n 0, 1) := by decide +kernel
theorem dX8_laysRow_170 : decode cX8_laysRow 170 = .ok (.getfield 95, 3) := by decide +kernel
theorem dX8_laysRow_173 : decode cX8_laysRow 173 = .ok (.iconst 0, 1) := by decide +kernel
theorem dX8_laysRow_174 : decode cX8_laysRow 174 = .ok (.aload_n 2, 1) := by decide +kernel
theorem dX8_laysRow_175 : decode cX8_laysRow 175 = .ok (.bipush 9, 2) := by decide +kernel
theorem dX8_laysRow_177 : decode cX8_laysRow 177 = .ok (.iload 4, 2) := by decide +kernel
theorem dX8_laysRow_179 : decode cX8_laysRow 179 = .ok (.imul, 1) := by decide +kernel
theorem dX8_laysRow_180 : decode cX8_laysRow 180 = .ok (.bipush 9, 2) := by decide +kernel
theorem dX8_laysRow_182 : decode cX8_laysRow 182 = .ok (.invokestatic 112, 3) := by decide +kernel
theorem dX8_laysRow_185 : decode cX8_laysRow 185 = .ok (.iinc 4 1, 3) := by decide +kernel
theorem dX8_laysRow_188 : decode cX8_laysRow 188 = .ok (.goto (-180), 3) := by decide +kernel
theorem dX8_laysRow_191 : decode cX8_laysRow 191 = .ok (.return_, 1) := by decide +kernel
theorem dX8_polynomial_0 : decode cX8_polynomial 0 = .ok (.iload_n 1, 1) := by decide +kernel
theorem dX8_polynomial_1 : decode cX8_polynomial 1 = .ok (.invokestatic 234, 3) := by decide +kernel
theorem dX8_polynomial_4 : decode cX8_polynomial 4 = .ok (.ifCond .ne 6, 3) := by decide +kernel
theorem dX8_polynomial_7 : decode cX8_polynomial 7 = .ok (.bipush (-2), 2) := by decide +kernel
theorem dX8_polynomial_9 : decode cX8_polynomial 9 = .ok (.ireturn, 1) := by decide +kernel
theorem dX8_polynomial_10 : decode cX8_polynomial 10 = .ok (.iload_n 2, 1) := by decide +kernel
theorem dX8_polynomial_11 : decode cX8_polynomial 11 = .ok (.invokestatic 250, 3) := by decide +kernel
theorem dX8_polynomial_14 : decode cX8_polynomial 14 = .ok (.ifCond .eq 10, 3) := by decide +kernel
theorem dX8_polynomial_17 : decode cX8_polynomial 17 = .ok (.iload_n 3, 1) := by decide +kernel
theorem dX8_polynomial_18 : decode cX8_polynomial 18 = .ok (.invokestatic 250, 3) := by decide +kernel
theorem dX8_polynomial_21 : decode cX8_polynomial 21 = .ok (.ifCond .ne 6, 3) := by decide +kernel
theorem dX8_polynomial_24 : decode cX8_polynomial 24 = .ok (.bipush (-3), 2) := by decide +kernel
theorem dX8_polynomial_26 : decode cX8_polynomial 26 = .ok (.ireturn, 1) := by decide +kernel
theorem dX8_polynomial_27 : decode cX8_polynomial 27 = .ok (.aload_n 0, 1) := by decide +kernel
theorem dX8_polynomial_28 : decode cX8_polynomial 28 = .ok (.iload_n 1, 1) := by decide +kernel
theorem dX8_polynomial_29 : decode cX8_polynomial 29 = .ok (.aload_n 0, 1) := by decide +kernel
theorem dX8_polynomial_30 : decode cX8_polynomial 30 = .ok (.getfield 86, 3) := by decide +kernel
theorem dX8_polynomial_33 : decode cX8_polynomial 33 = .ok (.invokevirtual 260, 3) := by decide +kernel
theorem dX8_polynomial_36 : decode cX8_polynomial 36 = .ok (.aload_n 0, 1) := by decide +kernel
theorem dX8_polynomial_37 : decode cX8_polynomial 37 = .ok (.getfield 86, 3) := by decide +kernel
theorem dX8_polynomial_40 : decode cX8_polynomial 40 = .ok (.bipush 9, 2) := by decide +kernel
theorem dX8_polynomial_42 : decode cX8_polynomial 42 = .ok (.iload_n 2, 1) := by decide +kernel
theorem dX8_polynomial_43 : decode cX8_polynomial 43 = .ok (.imul, 1) := by decide +kernel
theorem dX8_polynomial_44 : decode cX8_polynomial 44 = .ok (.iload_n 3, 1) := by decide +kernel
theorem dX8_polynomial_45 : decode cX8_polynomial 45 = .ok (.iadd, 1) := by decide +kernel
theorem dX8_polynomial_46 : decode cX8_polynomial 46 = .ok (.iaload, 1) := by decide +kernel
theorem dX8_polynomial_47 : decode cX8_polynomial 47 = .ok (.ireturn, 1) := by decide +kernel
theorem dX8_valueOf_0 : decode cX8_valueOf 0 = .ok (.iconst 0, 1) := by decide +kernel
theorem dX8_valueOf_1 : decode cX8_valueOf 1 = .ok (.istore_n 3, 1) := by decide +kernel
theorem dX8_valueOf_2 : decode cX8_valueOf 2 = .ok (.bipush 8, 2) := by decide +kernel
theorem dX8_valueOf_4 : decode cX8_valueOf 4 = .ok (.istore 4, 2) := by decide +kernel
theorem dX8_valueOf_6 : decode cX8_valueOf 6 = .ok (.iload 4, 2) := by decide +kernel
theorem dX8_valueOf_8 : decode cX8_valueOf 8 = .ok (.ifCond .lt 24, 3) := by decide +kernel
theorem dX8_valueOf_11 : decode cX8_valueOf 11 = .ok (.iload_n 3, 1) := by decide +kernel
theorem dX8_valueOf_12 : decode cX8_valueOf 12 = .ok (.iload_n 2, 1) := by decide +kernel
theorem dX8_valueOf_13 : decode cX8_valueOf 13 = .ok (.invokestatic 108, 3) := by decide +kernel
theorem dX8_valueOf_16 : decode cX8_valueOf 16 = .ok (.aload_n 0, 1) := by decide +kernel
theorem dX8_valueOf_17 : decode cX8_valueOf 17 = .ok (.iload_n 1, 1) := by decide +kernel
theorem dX8_valueOf_18 : decode cX8_valueOf 18 = .ok (.iload 4, 2) := by decide +kernel
theorem dX8_valueOf_20 : decode cX8_valueOf 20 = .ok (.iadd, 1) := by decide +kernel
theorem dX8_valueOf_21 : decode cX8_valueOf 21 = .ok (.iaload, 1) := by decide +kernel
theorem dX8_valueOf_22 : decode cX8_valueOf 22 = .ok (.invokestatic 119, 3) := by decide +kernel
theorem dX8_valueOf_25 : decode cX8_valueOf 25 = .ok (.istore_n 3, 1) := by decide +kernel
theorem dX8_valueOf_26 : decode cX8_valueOf 26 = .ok (.iinc 4 (-1), 3) := by decide +kernel
theorem dX8_valueOf_29 : decode cX8_valueOf 29 = .ok (.goto (-23), 3) := by decide +kernel
theorem dX8_valueOf_32 : decode cX8_valueOf 32 = .ok (.iload_n 3, 1) := by decide +kernel
theorem dX8_valueOf_33 : decode cX8_valueOf 33 = .ok (.ireturn, 1) := by decide +kernel
theorem dX8_value_0 : decode cX8_value 0 = .ok (.iload_n 1, 1) := by decide +kernel
theorem dX8_value_1 : decode cX8_value 1 = .ok (.invokestatic 234, 3) := by decide +kernel
theorem dX8_value_4 : decode cX8_value 4 = .ok (.ifCond .ne 6, 3) := by decide +kernel
theorem dX8_value_7 : decode cX8_value 7 = .ok (.bipush (-2), 2) := by decide +kernel
theorem dX8_value_9 : decode cX8_value 9 = .ok (.ireturn, 1) := by decide +kernel
theorem dX8_value_10 : decode cX8_value 10 = .ok (.iload_n 2, 1) := by decide +kernel
theorem dX8_value_11 : decode cX8_value 11 = .ok (.invokestatic 250, 3) := by decide +kernel
theorem dX8_value_14 : decode cX8_value 14 = .ok (.ifCond .eq 10, 3) := by decide +kernel
theorem dX8_value_17 : decode cX8_value 17 = .ok (.iload_n 3, 1) := by decide +kernel
theorem dX8_value_18 : decode cX8_value 18 = .ok (.invokestatic 247, 3) := by decide +kernel
theorem dX8_value_21 : decode cX8_value 21 = .ok (.ifCond .ne 6, 3) := by decide +kernel
theorem dX8_value_24 : decode cX8_value 24 = .ok (.bipush (-3), 2) := by decide +kernel
theorem dX8_value_26 : decode cX8_value 26 = .ok (.ireturn, 1) := by decide +kernel
theorem dX8_value_27 : decode cX8_value 27 = .ok (.aload_n 0, 1) := by decide +kernel
theorem dX8_value_28 : decode cX8_value 28 = .ok (.iload_n 1, 1) := by decide +kernel
theorem dX8_value_29 : decode cX8_value 29 = .ok (.aload_n 0, 1) := by decide +kernel
theorem dX8_value_30 : decode cX8_value 30 = .ok (.getfield 86, 3) := by decide +kernel
theorem dX8_value_33 : decode cX8_value 33 = .ok (.invokevirtual 260, 3) := by decide +kernel
theorem dX8_value_36 : decode cX8_value 36 = .ok (.aload_n 0, 1) := by decide +kernel
theorem dX8_value_37 : decode cX8_value 37 = .ok (.getfield 86, 3) := by decide +kernel
theorem dX8_value_40 : decode cX8_value 40 = .ok (.bipush 9, 2) := by decide +kernel
theorem dX8_value_42 : decode cX8_value 42 = .ok (.iload_n 2, 1) := by decide +kernel
theorem dX8_value_43 : decode cX8_value 43 = .ok (.imul, 1) := by decide +kernel
theorem dX8_value_44 : decode cX8_value 44 = .ok (.iload_n 3, 1) := by decide +kernel
theorem dX8_value_45 : decode cX8_value 45 = .ok (.invokestatic 263, 3) := by decide +kernel
theorem dX8_value_48 : decode cX8_value 48 = .ok (.ireturn, 1) := by decide +kernel
theorem dX8_takesApart_0 : decode cX8_takesApart 0 = .ok (.aload_n 1, 1) := by decide +kernel
theorem dX8_takesApart_1 : decode cX8_takesApart 1 = .ok (.iload_n 2, 1) := by decide +kernel
theorem dX8_takesApart_2 : decode cX8_takesApart 2 = .ok (.aload_n 0, 1) := by decide +kernel
theorem dX8_takesApart_3 : decode cX8_takesApart 3 = .ok (.getfield 98, 3) := by decide +kernel
theorem dX8_takesApart_6 : decode cX8_takesApart 6 = .ok (.iconst 0, 1) := by decide +kernel
theorem dX8_takesApart_7 : decode cX8_takesApart 7 = .ok (.bipush 9, 2) := by decide +kernel
theorem dX8_takesApart_9 : decode cX8_takesApart 9 = .ok (.invokestatic 112, 3) := by decide +kernel
theorem dX8_takesApart_12 : decode cX8_takesApart 12 = .ok (.bipush 8, 2) := by decide +kernel
theorem dX8_takesApart_14 : decode cX8_takesApart 14 = .ok (.istore 4, 2) := by decide +kernel
theorem dX8_takesApart_16 : decode cX8_takesApart 16 = .ok (.iload 4, 2) := by decide +kernel
theorem dX8_takesApart_18 : decode cX8_takesApart 18 = .ok (.ifCond .lt 92, 3) := by decide +kernel
theorem dX8_takesApart_21 : decode cX8_takesApart 21 = .ok (.aload_n 0, 1) := by decide +kernel
theorem dX8_takesApart_22 : decode cX8_takesApart 22 = .ok (.getfield 101, 3) := by decide +kernel
theorem dX8_takesApart_25 : decode cX8_takesApart 25 = .ok (.iload 4, 2) := by decide +kernel
theorem dX8_takesApart_27 : decode cX8_takesApart 27 = .ok (.aload_n 0, 1) := by decide +kernel
theorem dX8_takesApart_28 : decode cX8_takesApart 28 = .ok (.getfield 98, 3) := by decide +kernel
theorem dX8_takesApart_31 : decode cX8_takesApart 31 = .ok (.iload 4, 2) := by decide +kernel
theorem dX8_takesApart_33 : decode cX8_takesApart 33 = .ok (.iaload, 1) := by decide +kernel
theorem dX8_takesApart_34 : decode cX8_takesApart 34 = .ok (.aload_n 3, 1) := by decide +kernel
theorem dX8_takesApart_35 : decode cX8_takesApart 35 = .ok (.bipush 9, 2) := by decide +kernel
theorem dX8_takesApart_37 : decode cX8_takesApart 37 = .ok (.iload 4, 2) := by decide +kernel
theorem dX8_takesApart_39 : decode cX8_takesApart 39 = .ok (.imul, 1) := by decide +kernel
theorem dX8_takesApart_40 : decode cX8_takesApart 40 = .ok (.iload 4, 2) := by decide +kernel
theorem dX8_takesApart_42 : decode cX8_takesApart 42 = .ok (.iadd, 1) := by decide +kernel
theorem dX8_takesApart_43 : decode cX8_takesApart 43 = .ok (.iaload, 1) := by decide +kernel
theorem dX8_takesApart_44 : decode cX8_takesApart 44 = .ok (.invokestatic 126, 3) := by decide +kernel
theorem dX8_takesApart_47 : decode cX8_takesApart 47 = .ok (.invokestatic 108, 3) := by decide +kernel
theorem dX8_takesApart_50 : decode cX8_takesApart 50 = .ok (.iastore, 1) := by decide +kernel
theorem dX8_takesApart_51 : decode cX8_takesApart 51 = .ok (.iconst 0, 1) := by decide +kernel
theorem dX8_takesApart_52 : decode cX8_takesApart 52 = .ok (.istore 5, 2) := by decide +kernel
theorem dX8_takesApart_54 : decode cX8_takesApart 54 = .ok (.iload 5, 2) := by decide +kernel
theorem dX8_takesApart_56 : decode cX8_takesApart 56 = .ok (.iload 4, 2) := by decide +kernel
theorem dX8_takesApart_58 : decode cX8_takesApart 58 = .ok (.if_icmp .gt 46, 3) := by decide +kernel
theorem dX8_takesApart_61 : decode cX8_takesApart 61 = .ok (.aload_n 0, 1) := by decide +kernel
theorem dX8_takesApart_62 : decode cX8_takesApart 62 = .ok (.getfield 98, 3) := by decide +kernel
theorem dX8_takesApart_65 : decode cX8_takesApart 65 = .ok (.iload 5, 2) := by decide +kernel
theorem dX8_takesApart_67 : decode cX8_takesApart 67 = .ok (.aload_n 0, 1) := by decide +kernel
theorem dX8_takesApart_68 : decode cX8_takesApart 68 = .ok (.getfield 98, 3) := by decide +kernel
theorem dX8_takesApart_71 : decode cX8_takesApart 71 = .ok (.iload 5, 2) := by decide +kernel
theorem dX8_takesApart_73 : decode cX8_takesApart 73 = .ok (.iaload, 1) := by decide +kernel
theorem dX8_takesApart_74 : decode cX8_takesApart 74 = .ok (.aload_n 0, 1) := by decide +kernel
theorem dX8_takesApart_75 : decode cX8_takesApart 75 = .ok (.getfield 101, 3) := by decide +kernel
theorem dX8_takesApart_78 : decode cX8_takesApart 78 = .ok (.iload 4, 2) := by decide +kernel
theorem dX8_takesApart_80 : decode cX8_takesApart 80 = .ok (.iaload, 1) := by decide +kernel
theorem dX8_takesApart_81 : decode cX8_takesApart 81 = .ok (.aload_n 3, 1) := by decide +kernel
theorem dX8_takesApart_82 : decode cX8_takesApart 82 = .ok (.bipush 9, 2) := by decide +kernel
theorem dX8_takesApart_84 : decode cX8_takesApart 84 = .ok (.iload 4, 2) := by decide +kernel
theorem dX8_takesApart_86 : decode cX8_takesApart 86 = .ok (.imul, 1) := by decide +kernel
theorem dX8_takesApart_87 : decode cX8_takesApart 87 = .ok (.iload 5, 2) := by decide +kernel
theorem dX8_takesApart_89 : decode cX8_takesApart 89 = .ok (.iadd, 1) := by decide +kernel
theorem dX8_takesApart_90 : decode cX8_takesApart 90 = .ok (.iaload, 1) := by decide +kernel
theorem dX8_takesApart_91 : decode cX8_takesApart 91 = .ok (.invokestatic 108, 3) := by decide +kernel
theorem dX8_takesApart_94 : decode cX8_takesApart 94 = .ok (.invokestatic 130, 3) := by decide +kernel
theorem dX8_takesApart_97 : decode cX8_takesApart 97 = .ok (.iastore, 1) := by decide +kernel
theorem dX8_takesApart_98 : decode cX8_takesApart 98 = .ok (.iinc 5 1, 3) := by decide +kernel
theorem dX8_takesApart_101 : decode cX8_takesApart 101 = .ok (.goto (-47), 3) := by decide +kernel
theorem dX8_takesApart_104 : decode cX8_takesApart 104 = .ok (.iinc 4 (-1), 3) := by decide +kernel
theorem dX8_takesApart_107 : decode cX8_takesApart 107 = .ok (.goto (-91), 3) := by decide +kernel
theorem dX8_takesApart_110 : decode cX8_takesApart 110 = .ok (.return_, 1) := by decide +kernel
theorem dX8_joins_0 : decode cX8_joins 0 = .ok (.iconst 0, 1) := by decide +kernel
theorem dX8_joins_1 : decode cX8_joins 1 = .ok (.istore_n 3, 1) := by decide +kernel
theorem dX8_joins_2 : decode cX8_joins 2 = .ok (.iload_n 3, 1) := by decide +kernel
theorem dX8_joins_3 : decode cX8_joins 3 = .ok (.bipush 9, 2) := by decide +kernel
theorem dX8_joins_5 : decode cX8_joins 5 = .ok (.if_icmp .ge 59, 3) := by decide +kernel
theorem dX8_joins_8 : decode cX8_joins 8 = .ok (.iconst 0, 1) := by decide +kernel
theorem dX8_joins_9 : decode cX8_joins 9 = .ok (.istore 4, 2) := by decide +kernel
theorem dX8_joins_11 : decode cX8_joins 11 = .ok (.iconst 0, 1) := by decide +kernel
theorem dX8_joins_12 : decode cX8_joins 12 = .ok (.istore 5, 2) := by decide +kernel
theorem dX8_joins_14 : decode cX8_joins 14 = .ok (.iload 5, 2) := by decide +kernel
theorem dX8_joins_16 : decode cX8_joins 16 = .ok (.bipush 9, 2) := by decide +kernel
theorem dX8_joins_18 : decode cX8_joins 18 = .ok (.if_icmp .ge 35, 3) := by decide +kernel
theorem dX8_joins_21 : decode cX8_joins 21 = .ok (.iload 4, 2) := by decide +kernel
theorem dX8_joins_23 : decode cX8_joins 23 = .ok (.aload_n 0, 1) := by decide +kernel
theorem dX8_joins_24 : decode cX8_joins 24 = .ok (.getfield 101, 3) := by decide +kernel
theorem dX8_joins_27 : decode cX8_joins 27 = .ok (.iload 5, 2) := by decide +kernel
theorem dX8_joins_29 : decode cX8_joins 29 = .ok (.iaload, 1) := by decide +kernel
theorem dX8_joins_30 : decode cX8_joins 30 = .ok (.aload_n 1, 1) := by decide +kernel
theorem dX8_joins_31 : decode cX8_joins 31 = .ok (.bipush 9, 2) := by decide +kernel
theorem dX8_joins_33 : decode cX8_joins 33 = .ok (.iload 5, 2) := by decide +kernel
theorem dX8_joins_35 : decode cX8_joins 35 = .ok (.imul, 1) := by decide +kernel
theorem dX8_joins_36 : decode cX8_joins 36 = .ok (.iload_n 3, 1) := by decide +kernel
theorem dX8_joins_37 : decode cX8_joins 37 = .ok (.iadd, 1) := by decide +kernel
theorem dX8_joins_38 : decode cX8_joins 38 = .ok (.iaload, 1) := by decide +kernel
theorem dX8_joins_39 : decode cX8_joins 39 = .ok (.invokestatic 108, 3) := by decide +kernel
theorem dX8_joins_42 : decode cX8_joins 42 = .ok (.invokestatic 119, 3) := by decide +kernel
theorem dX8_joins_45 : decode cX8_joins 45 = .ok (.istore 4, 2) := by decide +kernel
theorem dX8_joins_47 : decode cX8_joins 47 = .ok (.iinc 5 1, 3) := by decide +kernel
theorem dX8_joins_50 : decode cX8_joins 50 = .ok (.goto (-36), 3) := by decide +kernel
theorem dX8_joins_53 : decode cX8_joins 53 = .ok (.aload_n 2, 1) := by decide +kernel
theorem dX8_joins_54 : decode cX8_joins 54 = .ok (.iload_n 3, 1) := by decide +kernel
theorem dX8_joins_55 : decode cX8_joins 55 = .ok (.iload 4, 2) := by decide +kernel
theorem dX8_joins_57 : decode cX8_joins 57 = .ok (.iastore, 1) := by decide +kernel
theorem dX8_joins_58 : decode cX8_joins 58 = .ok (.iinc 3 1, 3) := by decide +kernel
theorem dX8_joins_61 : decode cX8_joins 61 = .ok (.goto (-59), 3) := by decide +kernel
theorem dX8_joins_64 : decode cX8_joins 64 = .ok (.return_, 1) := by decide +kernel
theorem dX8_connect_0 : decode cX8_connect 0 = .ok (.iload_n 1, 1) := by decide +kernel
theorem dX8_connect_1 : decode cX8_connect 1 = .ok (.invokestatic 234, 3) := by decide +kernel
theorem dX8_connect_4 : decode cX8_connect 4 = .ok (.ifCond .eq 10, 3) := by decide +kernel
theorem dX8_connect_7 : decode cX8_connect 7 = .ok (.iload_n 2, 1) := by decide +kernel
theorem dX8_connect_8 : decode cX8_connect 8 = .ok (.invokestatic 234, 3) := by decide +kernel
theorem dX8_connect_11 : decode cX8_connect 11 = .ok (.ifCond .ne 6, 3) := by decide +kernel
theorem dX8_connect_14 : decode cX8_connect 14 = .ok (.bipush (-2), 2) := by decide +kernel
theorem dX8_connect_16 : decode cX8_connect 16 = .ok (.ireturn, 1) := by decide +kernel
theorem dX8_connect_17 : decode cX8_connect 17 = .ok (.iload_n 3, 1) := by decide +kernel
theorem dX8_connect_18 : decode cX8_connect 18 = .ok (.invokestatic 250, 3) := by decide +kernel
theorem dX8_connect_21 : decode cX8_connect 21 = .ok (.ifCond .eq 11, 3) := by decide +kernel
theorem dX8_connect_24 : decode cX8_connect 24 = .ok (.iload 4, 2) := by decide +kernel
theorem dX8_connect_26 : decode cX8_connect 26 = .ok (.invokestatic 250, 3) := by decide +kernel
theorem dX8_connect_29 : decode cX8_connect 29 = .ok (.ifCond .ne 6, 3) := by decide +kernel
theorem dX8_connect_32 : decode cX8_connect 32 = .ok (.bipush (-3), 2) := by decide +kernel
theorem dX8_connect_34 : decode cX8_connect 34 = .ok (.ireturn, 1) := by decide +kernel
theorem dX8_connect_35 : decode cX8_connect 35 = .ok (.aload_n 0, 1) := by decide +kernel
theorem dX8_connect_36 : decode cX8_connect 36 = .ok (.iload_n 1, 1) := by decide +kernel
theorem dX8_connect_37 : decode cX8_connect 37 = .ok (.aload_n 0, 1) := by decide +kernel
theorem dX8_connect_38 : decode cX8_connect 38 = .ok (.getfield 86, 3) := by decide +kernel
theorem dX8_connect_41 : decode cX8_connect 41 = .ok (.invokevirtual 260, 3) := by decide +kernel
theorem dX8_connect_44 : decode cX8_connect 44 = .ok (.aload_n 0, 1) := by decide +kernel
theorem dX8_connect_45 : decode cX8_connect 45 = .ok (.iload_n 2, 1) := by decide +kernel
theorem dX8_connect_46 : decode cX8_connect 46 = .ok (.aload_n 0, 1) := by decide +kernel
theorem dX8_connect_47 : decode cX8_connect 47 = .ok (.getfield 89, 3) := by decide +kernel
theorem dX8_connect_50 : decode cX8_connect 50 = .ok (.invokevirtual 260, 3) := by decide +kernel
theorem dX8_connect_53 : decode cX8_connect 53 = .ok (.aload_n 0, 1) := by decide +kernel
theorem dX8_connect_54 : decode cX8_connect 54 = .ok (.aload_n 0, 1) := by decide +kernel
theorem dX8_connect_55 : decode cX8_connect 55 = .ok (.getfield 86, 3) := by decide +kernel
theorem dX8_connect_58 : decode cX8_connect 58 = .ok (.bipush 9, 2) := by decide +kernel
theorem dX8_connect_60 : decode cX8_connect 60 = .ok (.iload_n 3, 1) := by decide +kernel
theorem dX8_connect_61 : decode cX8_connect 61 = .ok (.imul, 1) := by decide +kernel
theorem dX8_connect_62 : decode cX8_connect 62 = .ok (.aload_n 0, 1) := by decide +kernel
theorem dX8_connect_63 : decode cX8_connect 63 = .ok (.getfield 89, 3) := by decide +kernel
theorem dX8_connect_66 : decode cX8_connect 66 = .ok (.invokevirtual 267, 3) := by decide +kernel
theorem dX8_connect_69 : decode cX8_connect 69 = .ok (.aload_n 0, 1) := by decide +kernel
theorem dX8_connect_70 : decode cX8_connect 70 = .ok (.getfield 101, 3) := by decide +kernel
theorem dX8_connect_73 : decode cX8_connect 73 = .ok (.iload 4, 2) := by decide +kernel
theorem dX8_connect_75 : decode cX8_connect 75 = .ok (.iaload, 1) := by decide +kernel
theorem dX8_connect_76 : decode cX8_connect 76 = .ok (.ireturn, 1) := by decide +kernel
theorem dX8_differ_0 : decode cX8_differ 0 = .ok (.iload_n 1, 1) := by decide +kernel
theorem dX8_differ_1 : decode cX8_differ 1 = .ok (.invokestatic 234, 3) := by decide +kernel
theorem dX8_differ_4 : decode cX8_differ 4 = .ok (.ifCond .eq 10, 3) := by decide +kernel
theorem dX8_differ_7 : decode cX8_differ 7 = .ok (.iload_n 2, 1) := by decide +kernel
theorem dX8_differ_8 : decode cX8_differ 8 = .ok (.invokestatic 234, 3) := by decide +kernel
theorem dX8_differ_11 : decode cX8_differ 11 = .ok (.ifCond .ne 6, 3) := by decide +kernel
theorem dX8_differ_14 : decode cX8_differ 14 = .ok (.bipush (-2), 2) := by decide +kernel
theorem dX8_differ_16 : decode cX8_differ 16 = .ok (.ireturn, 1) := by decide +kernel
theorem dX8_differ_17 : decode cX8_differ 17 = .ok (.aload_n 0, 1) := by decide +kernel
theorem dX8_differ_18 : decode cX8_differ 18 = .ok (.iload_n 1, 1) := by decide +kernel
theorem dX8_differ_19 : decode cX8_differ 19 = .ok (.aload_n 0, 1) := by decide +kernel
theorem dX8_differ_20 : decode cX8_differ 20 = .ok (.getfield 86, 3) := by decide +kernel
theorem dX8_differ_23 : decode cX8_differ 23 = .ok (.invokevirtual 260, 3) := by decide +kernel
theorem dX8_differ_26 : decode cX8_differ 26 = .ok (.aload_n 0, 1) := by decide +kernel
theorem dX8_differ_27 : decode cX8_differ 27 = .ok (.iload_n 2, 1) := by decide +kernel
theorem dX8_differ_28 : decode cX8_differ 28 = .ok (.aload_n 0, 1) := by decide +kernel
theorem dX8_differ_29 : decode cX8_differ 29 = .ok (.getfield 89, 3) := by decide +kernel
theorem dX8_differ_32 : decode cX8_differ 32 = .ok (.invokevirtual 260, 3) := by decide +kernel
theorem dX8_differ_35 : decode cX8_differ 35 = .ok (.iconst 0, 1) := by decide +kernel
theorem dX8_differ_36 : decode cX8_differ 36 = .ok (.istore_n 3, 1) := by decide +kernel
theorem dX8_differ_37 : decode cX8_differ 37 = .ok (.iload_n 3, 1) := by decide +kernel
theorem dX8_differ_38 : decode cX8_differ 38 = .ok (.bipush 81, 2) := by decide +kernel
theorem dX8_differ_40 : decode cX8_differ 40 = .ok (.if_icmp .ge 29, 3) := by decide +kernel
theorem dX8_differ_43 : decode cX8_differ 43 = .ok (.aload_n 0, 1) := by decide +kernel
theorem dX8_differ_44 : decode cX8_differ 44 = .ok (.getfield 86, 3) := by decide +kernel
theorem dX8_differ_47 : decode cX8_differ 47 = .ok (.iload_n 3, 1) := by decide +kernel
theorem dX8_differ_48 : decode cX8_differ 48 = .ok (.iaload, 1) := by decide +kernel
theorem dX8_differ_49 : decode cX8_differ 49 = .ok (.aload_n 0, 1) := by decide +kernel
theorem dX8_differ_50 : decode cX8_differ 50 = .ok (.getfield 89, 3) := by decide +kernel
theorem dX8_differ_53 : decode cX8_differ 53 = .ok (.iload_n 3, 1) := by decide +kernel
theorem dX8_differ_54 : decode cX8_differ 54 = .ok (.iaload, 1) := by decide +kernel
theorem dX8_differ_55 : decode cX8_differ 55 = .ok (.if_icmp .eq 8, 3) := by decide +kernel
theorem dX8_differ_58 : decode cX8_differ 58 = .ok (.iload_n 3, 1) := by decide +kernel
theorem dX8_differ_59 : decode cX8_differ 59 = .ok (.bipush 9, 2) := by decide +kernel
theorem dX8_differ_61 : decode cX8_differ 61 = .ok (.idiv, 1) := by decide +kernel
theorem dX8_differ_62 : decode cX8_differ 62 = .ok (.ireturn, 1) := by decide +kernel
theorem dX8_differ_63 : decode cX8_differ 63 = .ok (.iinc 3 1, 3) := by decide +kernel
theorem dX8_differ_66 : decode cX8_differ 66 = .ok (.goto (-29), 3) := by decide +kernel
theorem dX8_differ_69 : decode cX8_differ 69 = .ok (.iconst (-1), 1) := by decide +kernel
theorem dX8_differ_70 : decode cX8_differ 70 = .ok (.ireturn, 1) := by decide +kernel
theorem dX8_notes_0 : decode cX8_notes 0 = .ok (.aload_n 0, 1) := by decide +kernel
theorem dX8_notes_1 : decode cX8_notes 1 = .ok (.getfield 270, 3) := by decide +kernel
theorem dX8_notes_4 : decode cX8_notes 4 = .ok (.bipush 8, 2) := by decide +kernel
theorem dX8_notes_6 : decode cX8_notes 6 = .ok (.if_icmp .ne 29, 3) := by decide +kernel
theorem dX8_notes_9 : decode cX8_notes 9 = .ok (.aload_n 0, 1) := by decide +kernel
theorem dX8_notes_10 : decode cX8_notes 10 = .ok (.getfield 19, 3) := by decide +kernel
theorem dX8_notes_13 : decode cX8_notes 13 = .ok (.bipush 9, 2) := by decide +kernel
theorem dX8_notes_15 : decode cX8_notes 15 = .ok (.aload_n 0, 1) := by decide +kernel
theorem dX8_notes_16 : decode cX8_notes 16 = .ok (.getfield 19, 3) := by decide +kernel
theorem dX8_notes_19 : decode cX8_notes 19 = .ok (.iconst 0, 1) := by decide +kernel
theorem dX8_notes_20 : decode cX8_notes 20 = .ok (.bipush 63, 2) := by decide +kernel
theorem dX8_notes_22 : decode cX8_notes 22 = .ok (.invokestatic 112, 3) := by decide +kernel
theorem dX8_notes_25 : decode cX8_notes 25 = .ok (.aload_n 0, 1) := by decide +kernel
theorem dX8_notes_26 : decode cX8_notes 26 = .ok (.dup, 1) := by decide +kernel
theorem dX8_notes_27 : decode cX8_notes 27 = .ok (.getfield 270, 3) := by decide +kernel
theorem dX8_notes_30 : decode cX8_notes 30 = .ok (.iconst 1, 1) := by decide +kernel
theorem dX8_notes_31 : decode cX8_notes 31 = .ok (.isub, 1) := by decide +kernel
theorem dX8_notes_32 : decode cX8_notes 32 = .ok (.putfield 270, 3) := by decide +kernel
theorem dX8_notes_35 : decode cX8_notes 35 = .ok (.aload_n 0, 1) := by decide +kernel
theorem dX8_notes_36 : decode cX8_notes 36 = .ok (.getfield 16, 3) := by decide +kernel
theorem dX8_notes_39 : decode cX8_notes 39 = .ok (.iconst 0, 1) := by decide +kernel
theorem dX8_notes_40 : decode cX8_notes 40 = .ok (.aload_n 0, 1) := by decide +kernel
theorem dX8_notes_41 : decode cX8_notes 41 = .ok (.getfield 19, 3) := by decide +kernel
theorem dX8_notes_44 : decode cX8_notes 44 = .ok (.bipush 9, 2) := by decide +kernel
theorem dX8_notes_46 : decode cX8_notes 46 = .ok (.aload_n 0, 1) := by decide +kernel
theorem dX8_notes_47 : decode cX8_notes 47 = .ok (.getfield 270, 3) := by decide +kernel
theorem dX8_notes_50 : decode cX8_notes 50 = .ok (.imul, 1) := by decide +kernel
theorem dX8_notes_51 : decode cX8_notes 51 = .ok (.bipush 9, 2) := by decide +kernel
theorem dX8_notes_53 : decode cX8_notes 53 = .ok (.invokestatic 112, 3) := by decide +kernel
theorem dX8_notes_56 : decode cX8_notes 56 = .ok (.aload_n 0, 1) := by decide +kernel
theorem dX8_notes_57 : decode cX8_notes 57 = .ok (.dup, 1) := by decide +kernel
theorem dX8_notes_58 : decode cX8_notes 58 = .ok (.getfield 270, 3) := by decide +kernel
theorem dX8_notes_61 : decode cX8_notes 61 = .ok (.iconst 1, 1) := by decide +kernel
theorem dX8_notes_62 : decode cX8_notes 62 = .ok (.iadd, 1) := by decide +kernel
theorem dX8_notes_63 : decode cX8_notes 63 = .ok (.putfield 270, 3) := by decide +kernel
theorem dX8_notes_66 : decode cX8_notes 66 = .ok (.return_, 1) := by decide +kernel
theorem dX8_take_0 : decode cX8_take 0 = .ok (.iload_n 1, 1) := by decide +kernel
theorem dX8_take_1 : decode cX8_take 1 = .ok (.invokestatic 234, 3) := by decide +kernel
theorem dX8_take_4 : decode cX8_take 4 = .ok (.ifCond .ne 6, 3) := by decide +kernel
theorem dX8_take_7 : decode cX8_take 7 = .ok (.bipush (-2), 2) := by decide +kernel
theorem dX8_take_9 : decode cX8_take 9 = .ok (.ireturn, 1) := by decide +kernel
theorem dX8_take_10 : decode cX8_take 10 = .ok (.iload_n 2, 1) := by decide +kernel
theorem dX8_take_11 : decode cX8_take 11 = .ok (.invokestatic 250, 3) := by decide +kernel
theorem dX8_take_14 : decode cX8_take 14 = .ok (.ifCond .ne 6, 3) := by decide +kernel
theorem dX8_take_17 : decode cX8_take 17 = .ok (.bipush (-3), 2) := by decide +kernel
theorem dX8_take_19 : decode cX8_take 19 = .ok (.ireturn, 1) := by decide +kernel
theorem dX8_take_20 : decode cX8_take 20 = .ok (.aload_n 0, 1) := by decide +kernel
theorem dX8_take_21 : decode cX8_take 21 = .ok (.iload_n 1, 1) := by decide +kernel
theorem dX8_take_22 : decode cX8_take 22 = .ok (.aload_n 0, 1) := by decide +kernel
theorem dX8_take_23 : decode cX8_take 23 = .ok (.getfield 86, 3) := by decide +kernel
theorem dX8_take_26 : decode cX8_take 26 = .ok (.invokevirtual 260, 3) := by decide +kernel
theorem dX8_take_29 : decode cX8_take 29 = .ok (.aload_n 0, 1) := by decide +kernel
theorem dX8_take_30 : decode cX8_take 30 = .ok (.invokevirtual 273, 3) := by decide +kernel
theorem dX8_take_33 : decode cX8_take 33 = .ok (.aload_n 0, 1) := by decide +kernel
theorem dX8_take_34 : decode cX8_take 34 = .ok (.getfield 86, 3) := by decide +kernel
theorem dX8_take_37 : decode cX8_take 37 = .ok (.bipush 9, 2) := by decide +kernel
theorem dX8_take_39 : decode cX8_take 39 = .ok (.iload_n 2, 1) := by decide +kernel
theorem dX8_take_40 : decode cX8_take 40 = .ok (.imul, 1) := by decide +kernel
theorem dX8_take_41 : decode cX8_take 41 = .ok (.aload_n 0, 1) := by decide +kernel
theorem dX8_take_42 : decode cX8_take 42 = .ok (.getfield 16, 3) := by decide +kernel
theorem dX8_take_45 : decode cX8_take 45 = .ok (.iconst 0, 1) := by decide +kernel
theorem dX8_take_46 : decode cX8_take 46 = .ok (.bipush 9, 2) := by decide +kernel
theorem dX8_take_48 : decode cX8_take 48 = .ok (.invokestatic 112, 3) := by decide +kernel
theorem dX8_take_51 : decode cX8_take 51 = .ok (.aload_n 0, 1) := by decide +kernel
theorem dX8_take_52 : decode cX8_take 52 = .ok (.getfield 16, 3) := by decide +kernel
theorem dX8_take_55 : decode cX8_take 55 = .ok (.iload_n 2, 1) := by decide +kernel
theorem dX8_take_56 : decode cX8_take 56 = .ok (.iaload, 1) := by decide +kernel
theorem dX8_take_57 : decode cX8_take 57 = .ok (.ireturn, 1) := by decide +kernel
theorem dX8_put_0 : decode cX8_put 0 = .ok (.iload_n 1, 1) := by decide +kernel
theorem dX8_put_1 : decode cX8_put 1 = .ok (.invokestatic 250, 3) := by decide +kernel
theorem dX8_put_4 : decode cX8_put 4 = .ok (.ifCond .eq 10, 3) := by decide +kernel
theorem dX8_put_7 : decode cX8_put 7 = .ok (.iload_n 2, 1) := by decide +kernel
theorem dX8_put_8 : decode cX8_put 8 = .ok (.invokestatic 247, 3) := by decide +kernel
theorem dX8_put_11 : decode cX8_put 11 = .ok (.ifCond .ne 6, 3) := by decide +kernel
theorem dX8_put_14 : decode cX8_put 14 = .ok (.bipush (-3), 2) := by decide +kernel
theorem dX8_put_16 : decode cX8_put 16 = .ok (.ireturn, 1) := by decide +kernel
theorem dX8_put_17 : decode cX8_put 17 = .ok (.aload_n 0, 1) := by decide +kernel
theorem dX8_put_18 : decode cX8_put 18 = .ok (.getfield 16, 3) := by decide +kernel
theorem dX8_put_21 : decode cX8_put 21 = .ok (.iload_n 1, 1) := by decide +kernel
theorem dX8_put_22 : decode cX8_put 22 = .ok (.iaload, 1) := by decide +kernel
theorem dX8_put_23 : decode cX8_put 23 = .ok (.istore_n 3, 1) := by decide +kernel
theorem dX8_put_24 : decode cX8_put 24 = .ok (.aload_n 0, 1) := by decide +kernel
theorem dX8_put_25 : decode cX8_put 25 = .ok (.invokevirtual 273, 3) := by decide +kernel
theorem dX8_put_28 : decode cX8_put 28 = .ok (.aload_n 0, 1) := by decide +kernel
theorem dX8_put_29 : decode cX8_put 29 = .ok (.getfield 16, 3) := by decide +kernel
theorem dX8_put_32 : decode cX8_put 32 = .ok (.iload_n 1, 1) := by decide +kernel
theorem dX8_put_33 : decode cX8_put 33 = .ok (.iload_n 2, 1) := by decide +kernel
theorem dX8_put_34 : decode cX8_put 34 = .ok (.iastore, 1) := by decide +kernel
theorem dX8_put_35 : decode cX8_put 35 = .ok (.iload_n 3, 1) := by decide +kernel
theorem dX8_put_36 : decode cX8_put 36 = .ok (.ireturn, 1) := by decide +kernel
theorem dX8_plus_0 : decode cX8_plus 0 = .ok (.iload_n 1, 1) := by decide +kernel
theorem dX8_plus_1 : decode cX8_plus 1 = .ok (.invokestatic 234, 3) := by decide +kernel
theorem dX8_plus_4 : decode cX8_plus 4 = .ok (.ifCond .ne 6, 3) := by decide +kernel
theorem dX8_plus_7 : decode cX8_plus 7 = .ok (.bipush (-2), 2) := by decide +kernel
theorem dX8_plus_9 : decode cX8_plus 9 = .ok (.ireturn, 1) := by decide +kernel
theorem dX8_plus_10 : decode cX8_plus 10 = .ok (.iload_n 2, 1) := by decide +kernel
theorem dX8_plus_11 : decode cX8_plus 11 = .ok (.invokestatic 250, 3) := by decide +kernel
theorem dX8_plus_14 : decode cX8_plus 14 = .ok (.ifCond .eq 10, 3) := by decide +kernel
theorem dX8_plus_17 : decode cX8_plus 17 = .ok (.iload_n 3, 1) := by decide +kernel
theorem dX8_plus_18 : decode cX8_plus 18 = .ok (.invokestatic 247, 3) := by decide +kernel
theorem dX8_plus_21 : decode cX8_plus 21 = .ok (.ifCond .ne 6, 3) := by decide +kernel
theorem dX8_plus_24 : decode cX8_plus 24 = .ok (.bipush (-3), 2) := by decide +kernel
theorem dX8_plus_26 : decode cX8_plus 26 = .ok (.ireturn, 1) := by decide +kernel
theorem dX8_plus_27 : decode cX8_plus 27 = .ok (.aload_n 0, 1) := by decide +kernel
theorem dX8_plus_28 : decode cX8_plus 28 = .ok (.iload_n 1, 1) := by decide +kernel
theorem dX8_plus_29 : decode cX8_plus 29 = .ok (.aload_n 0, 1) := by decide +kernel
theorem dX8_plus_30 : decode cX8_plus 30 = .ok (.getfield 86, 3) := by decide +kernel
theorem dX8_plus_33 : decode cX8_plus 33 = .ok (.invokevirtual 260, 3) := by decide +kernel
theorem dX8_plus_36 : decode cX8_plus 36 = .ok (.aload_n 0, 1) := by decide +kernel
theorem dX8_plus_37 : decode cX8_plus 37 = .ok (.invokevirtual 273, 3) := by decide +kernel
theorem dX8_plus_40 : decode cX8_plus 40 = .ok (.iconst 0, 1) := by decide +kernel
theorem dX8_plus_41 : decode cX8_plus 41 = .ok (.istore 4, 2) := by decide +kernel
theorem dX8_plus_43 : decode cX8_plus 43 = .ok (.iload 4, 2) := by decide +kernel
theorem dX8_plus_45 : decode cX8_plus 45 = .ok (.bipush 9, 2) := by decide +kernel
theorem dX8_plus_47 : decode cX8_plus 47 = .ok (.if_icmp .ge 42, 3) := by decide +kernel
theorem dX8_plus_50 : decode cX8_plus 50 = .ok (.aload_n 0, 1) := by decide +kernel
theorem dX8_plus_51 : decode cX8_plus 51 = .ok (.getfield 16, 3) := by decide +kernel
theorem dX8_plus_54 : decode cX8_plus 54 = .ok (.iload 4, 2) := by decide +kernel
theorem dX8_plus_56 : decode cX8_plus 56 = .ok (.aload_n 0, 1) := by decide +kernel
theorem dX8_plus_57 : decode cX8_plus 57 = .ok (.getfield 16, 3) := by decide +kernel
theorem dX8_plus_60 : decode cX8_plus 60 = .ok (.iload 4, 2) := by decide +kernel
theorem dX8_plus_62 : decode cX8_plus 62 = .ok (.iaload, 1) := by decide +kernel
theorem dX8_plus_63 : decode cX8_plus 63 = .ok (.iload_n 3, 1) := by decide +kernel
theorem dX8_plus_64 : decode cX8_plus 64 = .ok (.aload_n 0, 1) := by decide +kernel
theorem dX8_plus_65 : decode cX8_plus 65 = .ok (.getfield 86, 3) := by decide +kernel
theorem dX8_plus_68 : decode cX8_plus 68 = .ok (.bipush 9, 2) := by decide +kernel
theorem dX8_plus_70 : decode cX8_plus 70 = .ok (.iload_n 2, 1) := by decide +kernel
theorem dX8_plus_71 : decode cX8_plus 71 = .ok (.imul, 1) := by decide +kernel
theorem dX8_plus_72 : decode cX8_plus 72 = .ok (.iload 4, 2) := by decide +kernel
theorem dX8_plus_74 : decode cX8_plus 74 = .ok (.iadd, 1) := by decide +kernel
theorem dX8_plus_75 : decode cX8_plus 75 = .ok (.iaload, 1) := by decide +kernel
theorem dX8_plus_76 : decode cX8_plus 76 = .ok (.invokestatic 108, 3) := by decide +kernel
theorem dX8_plus_79 : decode cX8_plus 79 = .ok (.invokestatic 119, 3) := by decide +kernel
theorem dX8_plus_82 : decode cX8_plus 82 = .ok (.iastore, 1) := by decide +kernel
theorem dX8_plus_83 : decode cX8_plus 83 = .ok (.iinc 4 1, 3) := by decide +kernel
theorem dX8_plus_86 : decode cX8_plus 86 = .ok (.goto (-43), 3) := by decide +kernel
theorem dX8_plus_89 : decode cX8_plus 89 = .ok (.aload_n 0, 1) := by decide +kernel
theorem dX8_plus_90 : decode cX8_plus 90 = .ok (.getfield 16, 3) := by decide +kernel
theorem dX8_plus_93 : decode cX8_plus 93 = .ok (.iconst 0, 1) := by decide +kernel
theorem dX8_plus_94 : decode cX8_plus 94 = .ok (.iaload, 1) := by decide +kernel
theorem dX8_plus_95 : decode cX8_plus 95 = .ok (.ireturn, 1) := by decide +kernel
theorem dX8_act_0 : decode cX8_act 0 = .ok (.iload_n 1, 1) := by decide +kernel
theorem dX8_act_1 : decode cX8_act 1 = .ok (.invokestatic 234, 3) := by decide +kernel
theorem dX8_act_4 : decode cX8_act 4 = .ok (.ifCond .ne 6, 3) := by decide +kernel
theorem dX8_act_7 : decode cX8_act 7 = .ok (.bipush (-2), 2) := by decide +kernel
theorem dX8_act_9 : decode cX8_act 9 = .ok (.ireturn, 1) := by decide +kernel
theorem dX8_act_10 : decode cX8_act 10 = .ok (.iload_n 2, 1) := by decide +kernel
theorem dX8_act_11 : decode cX8_act 11 = .ok (.iconst 0, 1) := by decide +kernel
theorem dX8_act_12 : decode cX8_act 12 = .ok (.iconst 2, 1) := by decide +kernel
theorem dX8_act_13 : decode cX8_act 13 = .ok (.invokestatic 104, 3) := by decide +kernel
theorem dX8_act_16 : decode cX8_act 16 = .ok (.ifCond .ne 6, 3) := by decide +kernel
theorem dX8_act_19 : decode cX8_act 19 = .ok (.bipush (-3), 2) := by decide +kernel
theorem dX8_act_21 : decode cX8_act 21 = .ok (.ireturn, 1) := by decide +kernel
theorem dX8_act_22 : decode cX8_act 22 = .ok (.aload_n 0, 1) := by decide +kernel
theorem dX8_act_23 : decode cX8_act 23 = .ok (.invokevirtual 241, 3) := by decide +kernel
theorem dX8_act_26 : decode cX8_act 26 = .ok (.iload_n 2, 1) := by decide +kernel
theorem dX8_act_27 : decode cX8_act 27 = .ok (.iconst 1, 1) := by decide +kernel
theorem dX8_act_28 : decode cX8_act 28 = .ok (.if_icmp .ne 10, 3) := by decide +kernel
theorem dX8_act_31 : decode cX8_act 31 = .ok (.aload_n 0, 1) := by decide +kernel
theorem dX8_act_32 : decode cX8_act 32 = .ok (.getfield 13, 3) := by decide +kernel
theorem dX8_act_35 : decode cX8_act 35 = .ok (.goto 7, 3) := by decide +kernel
theorem dX8_act_38 : decode cX8_act 38 = .ok (.aload_n 0, 1) := by decide +kernel
theorem dX8_act_39 : decode cX8_act 39 = .ok (.getfield 7, 3) := by decide +kernel
theorem dX8_act_42 : decode cX8_act 42 = .ok (.bipush 9, 2) := by decide +kernel
theorem dX8_act_44 : decode cX8_act 44 = .ok (.iload_n 1, 1) := by decide +kernel
theorem dX8_act_45 : decode cX8_act 45 = .ok (.imul, 1) := by decide +kernel
theorem dX8_act_46 : decode cX8_act 46 = .ok (.aload_n 0, 1) := by decide +kernel
theorem dX8_act_47 : decode cX8_act 47 = .ok (.getfield 77, 3) := by decide +kernel
theorem dX8_act_50 : decode cX8_act 50 = .ok (.iconst 0, 1) := by decide +kernel
theorem dX8_act_51 : decode cX8_act 51 = .ok (.bipush 9, 2) := by decide +kernel
theorem dX8_act_53 : decode cX8_act 53 = .ok (.invokestatic 112, 3) := by decide +kernel
theorem dX8_act_56 : decode cX8_act 56 = .ok (.iload_n 2, 1) := by decide +kernel
theorem dX8_act_57 : decode cX8_act 57 = .ok (.iconst 2, 1) := by decide +kernel
theorem dX8_act_58 : decode cX8_act 58 = .ok (.if_icmp .ne 21, 3) := by decide +kernel
theorem dX8_act_61 : decode cX8_act 61 = .ok (.aload_n 0, 1) := by decide +kernel
theorem dX8_act_62 : decode cX8_act 62 = .ok (.aload_n 0, 1) := by decide +kernel
theorem dX8_act_63 : decode cX8_act 63 = .ok (.getfield 83, 3) := by decide +kernel
theorem dX8_act_66 : decode cX8_act 66 = .ok (.iconst 0, 1) := by decide +kernel
theorem dX8_act_67 : decode cX8_act 67 = .ok (.aload_n 0, 1) := by decide +kernel
theorem dX8_act_68 : decode cX8_act 68 = .ok (.getfield 77, 3) := by decide +kernel
theorem dX8_act_71 : decode cX8_act 71 = .ok (.iconst 0, 1) := by decide +kernel
theorem dX8_act_72 : decode cX8_act 72 = .ok (.aload_n 0, 1) := by decide +kernel
theorem dX8_act_73 : decode cX8_act 73 = .ok (.getfield 77, 3) := by decide +kernel
theorem dX8_act_76 : decode cX8_act 76 = .ok (.invokevirtual 158, 3) := by decide +kernel
theorem dX8_act_79 : decode cX8_act 79 = .ok (.aload_n 0, 1) := by decide +kernel
theorem dX8_act_80 : decode cX8_act 80 = .ok (.invokevirtual 273, 3) := by decide +kernel
theorem dX8_act_83 : decode cX8_act 83 = .ok (.iconst 0, 1) := by decide +kernel
theorem dX8_act_84 : decode cX8_act 84 = .ok (.istore_n 3, 1) := by decide +kernel
theorem dX8_act_85 : decode cX8_act 85 = .ok (.iload_n 3, 1) := by decide +kernel
theorem dX8_act_86 : decode cX8_act 86 = .ok (.bipush 9, 2) := by decide +kernel
theorem dX8_act_88 : decode cX8_act 88 = .ok (.if_icmp .ge 73, 3) := by decide +kernel
theorem dX8_act_91 : decode cX8_act 91 = .ok (.iconst 0, 1) := by decide +kernel
theorem dX8_act_92 : decode cX8_act 92 = .ok (.istore 4, 2) := by decide +kernel
theorem dX8_act_94 : decode cX8_act 94 = .ok (.iconst 0, 1) := by decide +kernel
theorem dX8_act_95 : decode cX8_act 95 = .ok (.istore 5, 2) := by decide +kernel
theorem dX8_act_97 : decode cX8_act 97 = .ok (.iload_n 3, 1) := by decide +kernel
theorem dX8_act_98 : decode cX8_act 98 = .ok (.iload 5, 2) := by decide +kernel
theorem dX8_act_100 : decode cX8_act 100 = .ok (.iadd, 1) := by decide +kernel
theorem dX8_act_101 : decode cX8_act 101 = .ok (.bipush 9, 2) := by decide +kernel
theorem dX8_act_103 : decode cX8_act 103 = .ok (.if_icmp .ge 44, 3) := by decide +kernel
theorem dX8_act_106 : decode cX8_act 106 = .ok (.iload 4, 2) := by decide +kernel
theorem dX8_act_108 : decode cX8_act 108 = .ok (.aload_n 0, 1) := by decide +kernel
theorem dX8_act_109 : decode cX8_act 109 = .ok (.getfield 77, 3) := by decide +kernel
theorem dX8_act_112 : decode cX8_act 112 = .ok (.iload 5, 2) := by decide +kernel
theorem dX8_act_114 : decode cX8_act 114 = .ok (.iaload, 1) := by decide +kernel
theorem dX8_act_115 : decode cX8_act 115 = .ok (.iload_n 3, 1) := by decide +kernel
theorem dX8_act_116 : decode cX8_act 116 = .ok (.iload 5, 2) := by decide +kernel
theorem dX8_act_118 : decode cX8_act 118 = .ok (.invokestatic 253, 3) := by decide +kernel
theorem dX8_act_121 : decode cX8_act 121 = .ok (.aload_n 0, 1) := by decide +kernel
theorem dX8_act_122 : decode cX8_act 122 = .ok (.getfield 16, 3) := by decide +kernel
theorem dX8_act_125 : decode cX8_act 125 = .ok (.iload_n 3, 1) := by decide +kernel
theorem dX8_act_126 : decode cX8_act 126 = .ok (.iload 5, 2) := by decide +kernel
theorem dX8_act_128 : decode cX8_act 128 = .ok (.iadd, 1) := by decide +kernel
theorem dX8_act_129 : decode cX8_act 129 = .ok (.iaload, 1) := by decide +kernel
theorem dX8_act_130 : decode cX8_act 130 = .ok (.invokestatic 108, 3) := by decide +kernel
theorem dX8_act_133 : decode cX8_act 133 = .ok (.invokestatic 108, 3) := by decide +kernel
theorem dX8_act_136 : decode cX8_act 136 = .ok (.invokestatic 119, 3) := by decide +kernel
theorem dX8_act_139 : decode cX8_act 139 = .ok (.istore 4, 2) := by decide +kernel
theorem dX8_act_141 : decode cX8_act 141 = .ok (.iinc 5 1, 3) := by decide +kernel
theorem dX8_act_144 : decode cX8_act 144 = .ok (.goto (-47), 3) := by decide +kernel
theorem dX8_act_147 : decode cX8_act 147 = .ok (.aload_n 0, 1) := by decide +kernel
theorem dX8_act_148 : decode cX8_act 148 = .ok (.getfield 16, 3) := by decide +kernel
theorem dX8_act_151 : decode cX8_act 151 = .ok (.iload_n 3, 1) := by decide +kernel
theorem dX8_act_152 : decode cX8_act 152 = .ok (.iload 4, 2) := by decide +kernel
theorem dX8_act_154 : decode cX8_act 154 = .ok (.iastore, 1) := by decide +kernel
theorem dX8_act_155 : decode cX8_act 155 = .ok (.iinc 3 1, 3) := by decide +kernel
theorem dX8_act_158 : decode cX8_act 158 = .ok (.goto (-73), 3) := by decide +kernel
theorem dX8_act_161 : decode cX8_act 161 = .ok (.aload_n 0, 1) := by decide +kernel
theorem dX8_act_162 : decode cX8_act 162 = .ok (.getfield 16, 3) := by decide +kernel
theorem dX8_act_165 : decode cX8_act 165 = .ok (.iconst 0, 1) := by decide +kernel
theorem dX8_act_166 : decode cX8_act 166 = .ok (.iaload, 1) := by decide +kernel
theorem dX8_act_167 : decode cX8_act 167 = .ok (.ireturn, 1) := by decide +kernel
theorem dX8_raise_0 : decode cX8_raise 0 = .ok (.iload_n 1, 1) := by decide +kernel
theorem dX8_raise_1 : decode cX8_raise 1 = .ok (.invokestatic 234, 3) := by decide +kernel
theorem dX8_raise_4 : decode cX8_raise 4 = .ok (.ifCond .ne 6, 3) := by decide +kernel
theorem dX8_raise_7 : decode cX8_raise 7 = .ok (.bipush (-2), 2) := by decide +kernel
theorem dX8_raise_9 : decode cX8_raise 9 = .ok (.ireturn, 1) := by decide +kernel
theorem dX8_raise_10 : decode cX8_raise 10 = .ok (.aload_n 0, 1) := by decide +kernel
theorem dX8_raise_11 : decode cX8_raise 11 = .ok (.getfield 16, 3) := by decide +kernel
theorem dX8_raise_14 : decode cX8_raise 14 = .ok (.bipush 8, 2) := by decide +kernel
theorem dX8_raise_16 : decode cX8_raise 16 = .ok (.iaload, 1) := by decide +kernel
theorem dX8_raise_17 : decode cX8_raise 17 = .ok (.ifCond .eq 6, 3) := by decide +kernel
theorem dX8_raise_20 : decode cX8_raise 20 = .ok (.bipush (-4), 2) := by decide +kernel
theorem dX8_raise_22 : decode cX8_raise 22 = .ok (.ireturn, 1) := by decide +kernel
theorem dX8_raise_23 : decode cX8_raise 23 = .ok (.aload_n 0, 1) := by decide +kernel
theorem dX8_raise_24 : decode cX8_raise 24 = .ok (.invokevirtual 273, 3) := by decide +kernel
theorem dX8_raise_27 : decode cX8_raise 27 = .ok (.aload_n 0, 1) := by decide +kernel
theorem dX8_raise_28 : decode cX8_raise 28 = .ok (.iload_n 1, 1) := by decide +kernel
theorem dX8_raise_29 : decode cX8_raise 29 = .ok (.aload_n 0, 1) := by decide +kernel
theorem dX8_raise_30 : decode cX8_raise 30 = .ok (.getfield 16, 3) := by decide +kernel
theorem dX8_raise_33 : decode cX8_raise 33 = .ok (.aload_n 0, 1) := by decide +kernel
theorem dX8_raise_34 : decode cX8_raise 34 = .ok (.getfield 95, 3) := by decide +kernel
theorem dX8_raise_37 : decode cX8_raise 37 = .ok (.invokevirtual 256, 3) := by decide +kernel
theorem dX8_raise_40 : decode cX8_raise 40 = .ok (.aload_n 0, 1) := by decide +kernel
theorem dX8_raise_41 : decode cX8_raise 41 = .ok (.getfield 95, 3) := by decide +kernel
theorem dX8_raise_44 : decode cX8_raise 44 = .ok (.iconst 1, 1) := by decide +kernel
theorem dX8_raise_45 : decode cX8_raise 45 = .ok (.aload_n 0, 1) := by decide +kernel
theorem dX8_raise_46 : decode cX8_raise 46 = .ok (.getfield 16, 3) := by decide +kernel
theorem dX8_raise_49 : decode cX8_raise 49 = .ok (.iconst 1, 1) := by decide +kernel
theorem dX8_raise_50 : decode cX8_raise 50 = .ok (.bipush 8, 2) := by decide +kernel
theorem dX8_raise_52 : decode cX8_raise 52 = .ok (.invokestatic 112, 3) := by decide +kernel
theorem dX8_raise_55 : decode cX8_raise 55 = .ok (.aload_n 0, 1) := by decide +kernel
theorem dX8_raise_56 : decode cX8_raise 56 = .ok (.getfield 16, 3) := by decide +kernel
theorem dX8_raise_59 : decode cX8_raise 59 = .ok (.iconst 0, 1) := by decide +kernel
theorem dX8_raise_60 : decode cX8_raise 60 = .ok (.iconst 0, 1) := by decide +kernel
theorem dX8_raise_61 : decode cX8_raise 61 = .ok (.iastore, 1) := by decide +kernel
theorem dX8_raise_62 : decode cX8_raise 62 = .ok (.aload_n 0, 1) := by decide +kernel
theorem dX8_raise_63 : decode cX8_raise 63 = .ok (.getfield 16, 3) := by decide +kernel
theorem dX8_raise_66 : decode cX8_raise 66 = .ok (.iconst 0, 1) := by decide +kernel
theorem dX8_raise_67 : decode cX8_raise 67 = .ok (.iconst 1, 1) := by decide +kernel
theorem dX8_raise_68 : decode cX8_raise 68 = .ok (.invokestatic 263, 3) := by decide +kernel
theorem dX8_raise_71 : decode cX8_raise 71 = .ok (.ireturn, 1) := by decide +kernel
theorem dX8_shift_0 : decode cX8_shift 0 = .ok (.iload_n 1, 1) := by decide +kernel
theorem dX8_shift_1 : decode cX8_shift 1 = .ok (.invokestatic 247, 3) := by decide +kernel
theorem dX8_shift_4 : decode cX8_shift 4 = .ok (.ifCond .ne 6, 3) := by decide +kernel
theorem dX8_shift_7 : decode cX8_shift 7 = .ok (.bipush (-3), 2) := by decide +kernel
theorem dX8_shift_9 : decode cX8_shift 9 = .ok (.ireturn, 1) := by decide +kernel
theorem dX8_shift_10 : decode cX8_shift 10 = .ok (.aload_n 0, 1) := by decide +kernel
theorem dX8_shift_11 : decode cX8_shift 11 = .ok (.invokevirtual 273, 3) := by decide +kernel
theorem dX8_shift_14 : decode cX8_shift 14 = .ok (.iconst 0, 1) := by decide +kernel
theorem dX8_shift_15 : decode cX8_shift 15 = .ok (.istore_n 2, 1) := by decide +kernel
theorem dX8_shift_16 : decode cX8_shift 16 = .ok (.iload_n 2, 1) := by decide +kernel
theorem dX8_shift_17 : decode cX8_shift 17 = .ok (.bipush 9, 2) := by decide +kernel
theorem dX8_shift_19 : decode cX8_shift 19 = .ok (.if_icmp .ge 50, 3) := by decide +kernel
theorem dX8_shift_22 : decode cX8_shift 22 = .ok (.bipush 7, 2) := by decide +kernel
theorem dX8_shift_24 : decode cX8_shift 24 = .ok (.istore_n 3, 1) := by decide +kernel
theorem dX8_shift_25 : decode cX8_shift 25 = .ok (.iload_n 3, 1) := by decide +kernel
theorem dX8_shift_26 : decode cX8_shift 26 = .ok (.iload_n 2, 1) := by decide +kernel
theorem dX8_shift_27 : decode cX8_shift 27 = .ok (.if_icmp .lt 36, 3) := by decide +kernel
theorem dX8_shift_30 : decode cX8_shift 30 = .ok (.aload_n 0, 1) := by decide +kernel
theorem dX8_shift_31 : decode cX8_shift 31 = .ok (.getfield 16, 3) := by decide +kernel
theorem dX8_shift_34 : decode cX8_shift 34 = .ok (.iload_n 3, 1) := by decide +kernel
theorem dX8_shift_35 : decode cX8_shift 35 = .ok (.aload_n 0, 1) := by decide +kernel
theorem dX8_shift_36 : decode cX8_shift 36 = .ok (.getfield 16, 3) := by decide +kernel
theorem dX8_shift_39 : decode cX8_shift 39 = .ok (.iload_n 3, 1) := by decide +kernel
theorem dX8_shift_40 : decode cX8_shift 40 = .ok (.iaload, 1) := by decide +kernel
theorem dX8_shift_41 : decode cX8_shift 41 = .ok (.iload_n 1, 1) := by decide +kernel
theorem dX8_shift_42 : decode cX8_shift 42 = .ok (.aload_n 0, 1) := by decide +kernel
theorem dX8_shift_43 : decode cX8_shift 43 = .ok (.getfield 16, 3) := by decide +kernel
theorem dX8_shift_46 : decode cX8_shift 46 = .ok (.iload_n 3, 1) := by decide +kernel
theorem dX8_shift_47 : decode cX8_shift 47 = .ok (.iconst 1, 1) := by decide +kernel
theorem dX8_shift_48 : decode cX8_shift 48 = .ok (.iadd, 1) := by decide +kernel
theorem dX8_shift_49 : decode cX8_shift 49 = .ok (.iaload, 1) := by decide +kernel
theorem dX8_shift_50 : decode cX8_shift 50 = .ok (.invokestatic 108, 3) := by decide +kernel
theorem dX8_shift_53 : decode cX8_shift 53 = .ok (.invokestatic 119, 3) := by decide +kernel
theorem dX8_shift_56 : decode cX8_shift 56 = .ok (.iastore, 1) := by decide +kernel
theorem dX8_shift_57 : decode cX8_shift 57 = .ok (.iinc 3 (-1), 3) := by decide +kernel
theorem dX8_shift_60 : decode cX8_shift 60 = .ok (.goto (-35), 3) := by decide +kernel
theorem dX8_shift_63 : decode cX8_shift 63 = .ok (.iinc 2 1, 3) := by decide +kernel
theorem dX8_shift_66 : decode cX8_shift 66 = .ok (.goto (-50), 3) := by decide +kernel
theorem dX8_shift_69 : decode cX8_shift 69 = .ok (.aload_n 0, 1) := by decide +kernel
theorem dX8_shift_70 : decode cX8_shift 70 = .ok (.getfield 16, 3) := by decide +kernel
theorem dX8_shift_73 : decode cX8_shift 73 = .ok (.iconst 0, 1) := by decide +kernel
theorem dX8_shift_74 : decode cX8_shift 74 = .ok (.iaload, 1) := by decide +kernel
theorem dX8_shift_75 : decode cX8_shift 75 = .ok (.ireturn, 1) := by decide +kernel
theorem dX8_times_0 : decode cX8_times 0 = .ok (.aload_n 0, 1) := by decide +kernel
theorem dX8_times_1 : decode cX8_times 1 = .ok (.getfield 16, 3) := by decide +kernel
theorem dX8_times_4 : decode cX8_times 4 = .ok (.bipush 8, 2) := by decide +kernel
theorem dX8_times_6 : decode cX8_times 6 = .ok (.iaload, 1) := by decide +kernel
theorem dX8_times_7 : decode cX8_times 7 = .ok (.ifCond .eq 6, 3) := by decide +kernel
theorem dX8_times_10 : decode cX8_times 10 = .ok (.bipush (-4), 2) := by decide +kernel
theorem dX8_times_12 : decode cX8_times 12 = .ok (.ireturn, 1) := by decide +kernel
theorem dX8_times_13 : decode cX8_times 13 = .ok (.aload_n 0, 1) := by decide +kernel
theorem dX8_times_14 : decode cX8_times 14 = .ok (.invokevirtual 273, 3) := by decide +kernel
theorem dX8_times_17 : decode cX8_times 17 = .ok (.bipush 8, 2) := by decide +kernel
theorem dX8_times_19 : decode cX8_times 19 = .ok (.istore_n 1, 1) := by decide +kernel
theorem dX8_times_20 : decode cX8_times 20 = .ok (.iload_n 1, 1) := by decide +kernel
theorem dX8_times_21 : decode cX8_times 21 = .ok (.ifCond .le 23, 3) := by decide +kernel
theorem dX8_times_24 : decode cX8_times 24 = .ok (.aload_n 0, 1) := by decide +kernel
theorem dX8_times_25 : decode cX8_times 25 = .ok (.getfield 16, 3) := by decide +kernel
theorem dX8_times_28 : decode cX8_times 28 = .ok (.iload_n 1, 1) := by decide +kernel
theorem dX8_times_29 : decode cX8_times 29 = .ok (.aload_n 0, 1) := by decide +kernel
theorem dX8_times_30 : decode cX8_times 30 = .ok (.getfield 16, 3) := by decide +kernel
theorem dX8_times_33 : decode cX8_times 33 = .ok (.iload_n 1, 1) := by decide +kernel
theorem dX8_times_34 : decode cX8_times 34 = .ok (.iconst 1, 1) := by decide +kernel
theorem dX8_times_35 : decode cX8_times 35 = .ok (.isub, 1) := by decide +kernel
theorem dX8_times_36 : decode cX8_times 36 = .ok (.iaload, 1) := by decide +kernel
theorem dX8_times_37 : decode cX8_times 37 = .ok (.iastore, 1) := by decide +kernel
theorem dX8_times_38 : decode cX8_times 38 = .ok (.iinc 1 (-1), 3) := by decide +kernel
theorem dX8_times_41 : decode cX8_times 41 = .ok (.goto (-21), 3) := by decide +kernel
theorem dX8_times_44 : decode cX8_times 44 = .ok (.aload_n 0, 1) := by decide +kernel
theorem dX8_times_45 : decode cX8_times 45 = .ok (.getfield 16, 3) := by decide +kernel
theorem dX8_times_48 : decode cX8_times 48 = .ok (.iconst 0, 1) := by decide +kernel
theorem dX8_times_49 : decode cX8_times 49 = .ok (.iconst 0, 1) := by decide +kernel
theorem dX8_times_50 : decode cX8_times 50 = .ok (.iastore, 1) := by decide +kernel
theorem dX8_times_51 : decode cX8_times 51 = .ok (.aload_n 0, 1) := by decide +kernel
theorem dX8_times_52 : decode cX8_times 52 = .ok (.getfield 16, 3) := by decide +kernel
theorem dX8_times_55 : decode cX8_times 55 = .ok (.iconst 0, 1) := by decide +kernel
theorem dX8_times_56 : decode cX8_times 56 = .ok (.iconst 1, 1) := by decide +kernel
theorem dX8_times_57 : decode cX8_times 57 = .ok (.invokestatic 263, 3) := by decide +kernel
theorem dX8_times_60 : decode cX8_times 60 = .ok (.ireturn, 1) := by decide +kernel
theorem dX8_swap_0 : decode cX8_swap 0 = .ok (.iload_n 1, 1) := by decide +kernel
theorem dX8_swap_1 : decode cX8_swap 1 = .ok (.invokestatic 234, 3) := by decide +kernel
theorem dX8_swap_4 : decode cX8_swap 4 = .ok (.ifCond .eq 10, 3) := by decide +kernel
theorem dX8_swap_7 : decode cX8_swap 7 = .ok (.iload_n 2, 1) := by decide +kernel
theorem dX8_swap_8 : decode cX8_swap 8 = .ok (.invokestatic 234, 3) := by decide +kernel
theorem dX8_swap_11 : decode cX8_swap 11 = .ok (.ifCond .ne 6, 3) := by decide +kernel
theorem dX8_swap_14 : decode cX8_swap 14 = .ok (.bipush (-2), 2) := by decide +kernel
theorem dX8_swap_16 : decode cX8_swap 16 = .ok (.ireturn, 1) := by decide +kernel
theorem dX8_swap_17 : decode cX8_swap 17 = .ok (.aload_n 0, 1) := by decide +kernel
theorem dX8_swap_18 : decode cX8_swap 18 = .ok (.iload_n 1, 1) := by decide +kernel
theorem dX8_swap_19 : decode cX8_swap 19 = .ok (.aload_n 0, 1) := by decide +kernel
theorem dX8_swap_20 : decode cX8_swap 20 = .ok (.getfield 86, 3) := by decide +kernel
theorem dX8_swap_23 : decode cX8_swap 23 = .ok (.invokevirtual 260, 3) := by decide +kernel
theorem dX8_swap_26 : decode cX8_swap 26 = .ok (.aload_n 0, 1) := by decide +kernel
theorem dX8_swap_27 : decode cX8_swap 27 = .ok (.iload_n 2, 1) := by decide +kernel
theorem dX8_swap_28 : decode cX8_swap 28 = .ok (.aload_n 0, 1) := by decide +kernel
theorem dX8_swap_29 : decode cX8_swap 29 = .ok (.getfield 89, 3) := by decide +kernel
theorem dX8_swap_32 : decode cX8_swap 32 = .ok (.invokevirtual 260, 3) := by decide +kernel
theorem dX8_swap_35 : decode cX8_swap 35 = .ok (.aload_n 0, 1) := by decide +kernel
theorem dX8_swap_36 : decode cX8_swap 36 = .ok (.invokevirtual 273, 3) := by decide +kernel
theorem dX8_swap_39 : decode cX8_swap 39 = .ok (.aload_n 0, 1) := by decide +kernel
theorem dX8_swap_40 : decode cX8_swap 40 = .ok (.aload_n 0, 1) := by decide +kernel
theorem dX8_swap_41 : decode cX8_swap 41 = .ok (.getfield 16, 3) := by decide +kernel
theorem dX8_swap_44 : decode cX8_swap 44 = .ok (.iconst 0, 1) := by decide +kernel
theorem dX8_swap_45 : decode cX8_swap 45 = .ok (.aload_n 0, 1) := by decide +kernel
theorem dX8_swap_46 : decode cX8_swap 46 = .ok (.getfield 86, 3) := by decide +kernel
theorem dX8_swap_49 : decode cX8_swap 49 = .ok (.invokevirtual 267, 3) := by decide +kernel
theorem dX8_swap_52 : decode cX8_swap 52 = .ok (.aload_n 0, 1) := by decide +kernel
theorem dX8_swap_53 : decode cX8_swap 53 = .ok (.aload_n 0, 1) := by decide +kernel
theorem dX8_swap_54 : decode cX8_swap 54 = .ok (.getfield 89, 3) := by decide +kernel
theorem dX8_swap_57 : decode cX8_swap 57 = .ok (.aload_n 0, 1) := by decide +kernel
theorem dX8_swap_58 : decode cX8_swap 58 = .ok (.getfield 16, 3) := by decide +kernel
theorem dX8_swap_61 : decode cX8_swap 61 = .ok (.invokevirtual 276, 3) := by decide +kernel
theorem dX8_swap_64 : decode cX8_swap 64 = .ok (.aload_n 0, 1) := by decide +kernel
theorem dX8_swap_65 : decode cX8_swap 65 = .ok (.getfield 16, 3) := by decide +kernel
theorem dX8_swap_68 : decode cX8_swap 68 = .ok (.iconst 0, 1) := by decide +kernel
theorem dX8_swap_69 : decode cX8_swap 69 = .ok (.iaload, 1) := by decide +kernel
theorem dX8_swap_70 : decode cX8_swap 70 = .ok (.ireturn, 1) := by decide +kernel
theorem dX8_climb_0 : decode cX8_climb 0 = .ok (.iload_n 1, 1) := by decide +kernel
theorem dX8_climb_1 : decode cX8_climb 1 = .ok (.invokestatic 234, 3) := by decide +kernel
theorem dX8_climb_4 : decode cX8_climb 4 = .ok (.ifCond .ne 6, 3) := by decide +kernel
theorem dX8_climb_7 : decode cX8_climb 7 = .ok (.bipush (-2), 2) := by decide +kernel
theorem dX8_climb_9 : decode cX8_climb 9 = .ok (.ireturn, 1) := by decide +kernel
theorem dX8_climb_10 : decode cX8_climb 10 = .ok (.aload_n 0, 1) := by decide +kernel
theorem dX8_climb_11 : decode cX8_climb 11 = .ok (.getfield 16, 3) := by decide +kernel
theorem dX8_climb_14 : decode cX8_climb 14 = .ok (.bipush 8, 2) := by decide +kernel
theorem dX8_climb_16 : decode cX8_climb 16 = .ok (.iaload, 1) := by decide +kernel
theorem dX8_climb_17 : decode cX8_climb 17 = .ok (.ifCond .eq 6, 3) := by decide +kernel
theorem dX8_climb_20 : decode cX8_climb 20 = .ok (.bipush (-4), 2) := by decide +kernel
theorem dX8_climb_22 : decode cX8_climb 22 = .ok (.ireturn, 1) := by decide +kernel
theorem dX8_climb_23 : decode cX8_climb 23 = .ok (.aload_n 0, 1) := by decide +kernel
theorem dX8_climb_24 : decode cX8_climb 24 = .ok (.iload_n 1, 1) := by decide +kernel
theorem dX8_climb_25 : decode cX8_climb 25 = .ok (.aload_n 0, 1) := by decide +kernel
theorem dX8_climb_26 : decode cX8_climb 26 = .ok (.getfield 86, 3) := by decide +kernel
theorem dX8_climb_29 : decode cX8_climb 29 = .ok (.invokevirtual 260, 3) := by decide +kernel
theorem dX8_climb_32 : decode cX8_climb 32 = .ok (.aload_n 0, 1) := by decide +kernel
theorem dX8_climb_33 : decode cX8_climb 33 = .ok (.invokevirtual 273, 3) := by decide +kernel
theorem dX8_climb_36 : decode cX8_climb 36 = .ok (.aload_n 0, 1) := by decide +kernel
theorem dX8_climb_37 : decode cX8_climb 37 = .ok (.aload_n 0, 1) := by decide +kernel
theorem dX8_climb_38 : decode cX8_climb 38 = .ok (.getfield 16, 3) := by decide +kernel
theorem dX8_climb_41 : decode cX8_climb 41 = .ok (.iconst 0, 1) := by decide +kernel
theorem dX8_climb_42 : decode cX8_climb 42 = .ok (.aload_n 0, 1) := by decide +kernel
theorem dX8_climb_43 : decode cX8_climb 43 = .ok (.getfield 86, 3) := by decide +kernel
theorem dX8_climb_46 : decode cX8_climb 46 = .ok (.invokevirtual 267, 3) := by decide +kernel
theorem dX8_climb_49 : decode cX8_climb 49 = .ok (.bipush 8, 2) := by decide +kernel
theorem dX8_climb_51 : decode cX8_climb 51 = .ok (.istore_n 2, 1) := by decide +kernel
theorem dX8_climb_52 : decode cX8_climb 52 = .ok (.iload_n 2, 1) := by decide +kernel
theorem dX8_climb_53 : decode cX8_climb 53 = .ok (.ifCond .le 23, 3) := by decide +kernel
theorem dX8_climb_56 : decode cX8_climb 56 = .ok (.aload_n 0, 1) := by decide +kernel
theorem dX8_climb_57 : decode cX8_climb 57 = .ok (.getfield 101, 3) := by decide +kernel
theorem dX8_climb_60 : decode cX8_climb 60 = .ok (.iload_n 2, 1) := by decide +kernel
theorem dX8_climb_61 : decode cX8_climb 61 = .ok (.aload_n 0, 1) := by decide +kernel
theorem dX8_climb_62 : decode cX8_climb 62 = .ok (.getfield 101, 3) := by decide +kernel
theorem dX8_climb_65 : decode cX8_climb 65 = .ok (.iload_n 2, 1) := by decide +kernel
theorem dX8_climb_66 : decode cX8_climb 66 = .ok (.iconst 1, 1) := by decide +kernel
theorem dX8_climb_67 : decode cX8_climb 67 = .ok (.isub, 1) := by decide +kernel
theorem dX8_climb_68 : decode cX8_climb 68 = .ok (.iaload, 1) := by decide +kernel
theorem dX8_climb_69 : decode cX8_climb 69 = .ok (.iastore, 1) := by decide +kernel
theorem dX8_climb_70 : decode cX8_climb 70 = .ok (.iinc 2 (-1), 3) := by decide +kernel
theorem dX8_climb_73 : decode cX8_climb 73 = .ok (.goto (-21), 3) := by decide +kernel
theorem dX8_climb_76 : decode cX8_climb 76 = .ok (.aload_n 0, 1) := by decide +kernel
theorem dX8_climb_77 : decode cX8_climb 77 = .ok (.getfield 101, 3) := by decide +kernel
theorem dX8_climb_80 : decode cX8_climb 80 = .ok (.iconst 0, 1) := by decide +kernel
theorem dX8_climb_81 : decode cX8_climb 81 = .ok (.iconst 0, 1) := by decide +kernel
theorem dX8_climb_82 : decode cX8_climb 82 = .ok (.iastore, 1) := by decide +kernel
theorem dX8_climb_83 : decode cX8_climb 83 = .ok (.aload_n 0, 1) := by decide +kernel
theorem dX8_climb_84 : decode cX8_climb 84 = .ok (.aload_n 0, 1) := by decide +kernel
theorem dX8_climb_85 : decode cX8_climb 85 = .ok (.getfield 86, 3) := by decide +kernel
theorem dX8_climb_88 : decode cX8_climb 88 = .ok (.aload_n 0, 1) := by decide +kernel
theorem dX8_climb_89 : decode cX8_climb 89 = .ok (.getfield 16, 3) := by decide +kernel
theorem dX8_climb_92 : decode cX8_climb 92 = .ok (.invokevirtual 276, 3) := by decide +kernel
theorem dX8_climb_95 : decode cX8_climb 95 = .ok (.aload_n 0, 1) := by decide +kernel
theorem dX8_climb_96 : decode cX8_climb 96 = .ok (.getfield 16, 3) := by decide +kernel
theorem dX8_climb_99 : decode cX8_climb 99 = .ok (.iconst 0, 1) := by decide +kernel
theorem dX8_climb_100 : decode cX8_climb 100 = .ok (.iaload, 1) := by decide +kernel
theorem dX8_climb_101 : decode cX8_climb 101 = .ok (.ireturn, 1) := by decide +kernel
theorem dX8_weigh_0 : decode cX8_weigh 0 = .ok (.iload_n 1, 1) := by decide +kernel
theorem dX8_weigh_1 : decode cX8_weigh 1 = .ok (.invokestatic 234, 3) := by decide +kernel
theorem dX8_weigh_4 : decode cX8_weigh 4 = .ok (.ifCond .ne 6, 3) := by decide +kernel
theorem dX8_weigh_7 : decode cX8_weigh 7 = .ok (.bipush (-2), 2) := by decide +kernel
theorem dX8_weigh_9 : decode cX8_weigh 9 = .ok (.ireturn, 1) := by decide +kernel
theorem dX8_weigh_10 : decode cX8_weigh 10 = .ok (.aload_n 0, 1) := by decide +kernel
theorem dX8_weigh_11 : decode cX8_weigh 11 = .ok (.iload_n 1, 1) := by decide +kernel
theorem dX8_weigh_12 : decode cX8_weigh 12 = .ok (.aload_n 0, 1) := by decide +kernel
theorem dX8_weigh_13 : decode cX8_weigh 13 = .ok (.getfield 86, 3) := by decide +kernel
theorem dX8_weigh_16 : decode cX8_weigh 16 = .ok (.invokevirtual 260, 3) := by decide +kernel
theorem dX8_weigh_19 : decode cX8_weigh 19 = .ok (.aload_n 0, 1) := by decide +kernel
theorem dX8_weigh_20 : decode cX8_weigh 20 = .ok (.invokevirtual 273, 3) := by decide +kernel
theorem dX8_weigh_23 : decode cX8_weigh 23 = .ok (.aload_n 0, 1) := by decide +kernel
theorem dX8_weigh_24 : decode cX8_weigh 24 = .ok (.aload_n 0, 1) := by decide +kernel
theorem dX8_weigh_25 : decode cX8_weigh 25 = .ok (.getfield 16, 3) := by decide +kernel
theorem dX8_weigh_28 : decode cX8_weigh 28 = .ok (.iconst 0, 1) := by decide +kernel
theorem dX8_weigh_29 : decode cX8_weigh 29 = .ok (.aload_n 0, 1) := by decide +kernel
theorem dX8_weigh_30 : decode cX8_weigh 30 = .ok (.getfield 86, 3) := by decide +kernel
theorem dX8_weigh_33 : decode cX8_weigh 33 = .ok (.invokevirtual 267, 3) := by decide +kernel
theorem dX8_weigh_36 : decode cX8_weigh 36 = .ok (.iconst 0, 1) := by decide +kernel
theorem dX8_weigh_37 : decode cX8_weigh 37 = .ok (.istore_n 2, 1) := by decide +kernel
theorem dX8_weigh_38 : decode cX8_weigh 38 = .ok (.iload_n 2, 1) := by decide +kernel
theorem dX8_weigh_39 : decode cX8_weigh 39 = .ok (.bipush 9, 2) := by decide +kernel
theorem dX8_weigh_41 : decode cX8_weigh 41 = .ok (.if_icmp .ge 25, 3) := by decide +kernel
theorem dX8_weigh_44 : decode cX8_weigh 44 = .ok (.aload_n 0, 1) := by decide +kernel
theorem dX8_weigh_45 : decode cX8_weigh 45 = .ok (.getfield 101, 3) := by decide +kernel
theorem dX8_weigh_48 : decode cX8_weigh 48 = .ok (.iload_n 2, 1) := by decide +kernel
theorem dX8_weigh_49 : decode cX8_weigh 49 = .ok (.iload_n 2, 1) := by decide +kernel
theorem dX8_weigh_50 : decode cX8_weigh 50 = .ok (.aload_n 0, 1) := by decide +kernel
theorem dX8_weigh_51 : decode cX8_weigh 51 = .ok (.getfield 101, 3) := by decide +kernel
theorem dX8_weigh_54 : decode cX8_weigh 54 = .ok (.iload_n 2, 1) := by decide +kernel
theorem dX8_weigh_55 : decode cX8_weigh 55 = .ok (.iaload, 1) := by decide +kernel
theorem dX8_weigh_56 : decode cX8_weigh 56 = .ok (.invokestatic 108, 3) := by decide +kernel
theorem dX8_weigh_59 : decode cX8_weigh 59 = .ok (.iastore, 1) := by decide +kernel
theorem dX8_weigh_60 : decode cX8_weigh 60 = .ok (.iinc 2 1, 3) := by decide +kernel
theorem dX8_weigh_63 : decode cX8_weigh 63 = .ok (.goto (-25), 3) := by decide +kernel
theorem dX8_weigh_66 : decode cX8_weigh 66 = .ok (.aload_n 0, 1) := by decide +kernel
theorem dX8_weigh_67 : decode cX8_weigh 67 = .ok (.aload_n 0, 1) := by decide +kernel
theorem dX8_weigh_68 : decode cX8_weigh 68 = .ok (.getfield 86, 3) := by decide +kernel
theorem dX8_weigh_71 : decode cX8_weigh 71 = .ok (.aload_n 0, 1) := by decide +kernel
theorem dX8_weigh_72 : decode cX8_weigh 72 = .ok (.getfield 16, 3) := by decide +kernel
theorem dX8_weigh_75 : decode cX8_weigh 75 = .ok (.invokevirtual 276, 3) := by decide +kernel
theorem dX8_weigh_78 : decode cX8_weigh 78 = .ok (.aload_n 0, 1) := by decide +kernel
theorem dX8_weigh_79 : decode cX8_weigh 79 = .ok (.getfield 16, 3) := by decide +kernel
theorem dX8_weigh_82 : decode cX8_weigh 82 = .ok (.iconst 0, 1) := by decide +kernel
theorem dX8_weigh_83 : decode cX8_weigh 83 = .ok (.iaload, 1) := by decide +kernel
theorem dX8_weigh_84 : decode cX8_weigh 84 = .ok (.ireturn, 1) := by decide +kernel
theorem dX8_undo_0 : decode cX8_undo 0 = .ok (.aload_n 0, 1) := by decide +kernel
theorem dX8_undo_1 : decode cX8_undo 1 = .ok (.getfield 270, 3) := by decide +kernel
theorem dX8_undo_4 : decode cX8_undo 4 = .ok (.ifCond .ne 6, 3) := by decide +kernel
theorem dX8_undo_7 : decode cX8_undo 7 = .ok (.bipush (-4), 2) := by decide +kernel
theorem dX8_undo_9 : decode cX8_undo 9 = .ok (.ireturn, 1) := by decide +kernel
theorem dX8_undo_10 : decode cX8_undo 10 = .ok (.aload_n 0, 1) := by decide +kernel
theorem dX8_undo_11 : decode cX8_undo 11 = .ok (.dup, 1) := by decide +kernel
theorem dX8_undo_12 : decode cX8_undo 12 = .ok (.getfield 270, 3) := by decide +kernel
theorem dX8_undo_15 : decode cX8_undo 15 = .ok (.iconst 1, 1) := by decide +kernel
theorem dX8_undo_16 : decode cX8_undo 16 = .ok (.isub, 1) := by decide +kernel
theorem dX8_undo_17 : decode cX8_undo 17 = .ok (.putfield 270, 3) := by decide +kernel
theorem dX8_undo_20 : decode cX8_undo 20 = .ok (.aload_n 0, 1) := by decide +kernel
theorem dX8_undo_21 : decode cX8_undo 21 = .ok (.getfield 19, 3) := by decide +kernel
theorem dX8_undo_24 : decode cX8_undo 24 = .ok (.bipush 9, 2) := by decide +kernel
theorem dX8_undo_26 : decode cX8_undo 26 = .ok (.aload_n 0, 1) := by decide +kernel
theorem dX8_undo_27 : decode cX8_undo 27 = .ok (.getfield 270, 3) := by decide +kernel
theorem dX8_undo_30 : decode cX8_undo 30 = .ok (.imul, 1) := by decide +kernel
theorem dX8_undo_31 : decode cX8_undo 31 = .ok (.aload_n 0, 1) := by decide +kernel
theorem dX8_undo_32 : decode cX8_undo 32 = .ok (.getfield 16, 3) := by decide +kernel
theorem dX8_undo_35 : decode cX8_undo 35 = .ok (.iconst 0, 1) := by decide +kernel
theorem dX8_undo_36 : decode cX8_undo 36 = .ok (.bipush 9, 2) := by decide +kernel
theorem dX8_undo_38 : decode cX8_undo 38 = .ok (.invokestatic 112, 3) := by decide +kernel
theorem dX8_undo_41 : decode cX8_undo 41 = .ok (.aload_n 0, 1) := by decide +kernel
theorem dX8_undo_42 : decode cX8_undo 42 = .ok (.getfield 270, 3) := by decide +kernel
theorem dX8_undo_45 : decode cX8_undo 45 = .ok (.ireturn, 1) := by decide +kernel
theorem dX8_hand_0 : decode cX8_hand 0 = .ok (.iload_n 1, 1) := by decide +kernel
theorem dX8_hand_1 : decode cX8_hand 1 = .ok (.invokestatic 250, 3) := by decide +kernel
theorem dX8_hand_4 : decode cX8_hand 4 = .ok (.ifCond .eq 12, 3) := by decide +kernel
theorem dX8_hand_7 : decode cX8_hand 7 = .ok (.aload_n 0, 1) := by decide +kernel
theorem dX8_hand_8 : decode cX8_hand 8 = .ok (.getfield 16, 3) := by decide +kernel
theorem dX8_hand_11 : decode cX8_hand 11 = .ok (.iload_n 1, 1) := by decide +kernel
theorem dX8_hand_12 : decode cX8_hand 12 = .ok (.iaload, 1) := by decide +kernel
theorem dX8_hand_13 : decode cX8_hand 13 = .ok (.goto 5, 3) := by decide +kernel
theorem dX8_hand_16 : decode cX8_hand 16 = .ok (.bipush (-3), 2) := by decide +kernel
theorem dX8_hand_18 : decode cX8_hand 18 = .ok (.ireturn, 1) := by decide +kernel
theorem dX8_at_0 : decode cX8_at 0 = .ok (.iload_n 1, 1) := by decide +kernel
theorem dX8_at_1 : decode cX8_at 1 = .ok (.invokestatic 247, 3) := by decide +kernel
theorem dX8_at_4 : decode cX8_at 4 = .ok (.ifCond .eq 15, 3) := by decide +kernel
theorem dX8_at_7 : decode cX8_at 7 = .ok (.aload_n 0, 1) := by decide +kernel
theorem dX8_at_8 : decode cX8_at 8 = .ok (.getfield 16, 3) := by decide +kernel
theorem dX8_at_11 : decode cX8_at 11 = .ok (.iconst 0, 1) := by decide +kernel
theorem dX8_at_12 : decode cX8_at 12 = .ok (.iload_n 1, 1) := by decide +kernel
theorem dX8_at_13 : decode cX8_at 13 = .ok (.invokestatic 263, 3) := by decide +kernel
theorem dX8_at_16 : decode cX8_at 16 = .ok (.goto 5, 3) := by decide +kernel
theorem dX8_at_19 : decode cX8_at 19 = .ok (.bipush (-3), 2) := by decide +kernel
theorem dX8_at_21 : decode cX8_at 21 = .ok (.ireturn, 1) := by decide +kernel
theorem dX8_expand_0 : decode cX8_expand 0 = .ok (.iload_n 1, 1) := by decide +kernel
theorem dX8_expand_1 : decode cX8_expand 1 = .ok (.invokestatic 234, 3) := by decide +kernel
theorem dX8_expand_4 : decode cX8_expand 4 = .ok (.ifCond .ne 6, 3) := by decide +kernel
theorem dX8_expand_7 : decode cX8_expand 7 = .ok (.bipush (-2), 2) := by decide +kernel
theorem dX8_expand_9 : decode cX8_expand 9 = .ok (.ireturn, 1) := by decide +kernel
theorem dX8_expand_10 : decode cX8_expand 10 = .ok (.iload_n 2, 1) := by decide +kernel
theorem dX8_expand_11 : decode cX8_expand 11 = .ok (.invokestatic 250, 3) := by decide +kernel
theorem dX8_expand_14 : decode cX8_expand 14 = .ok (.ifCond .ne 6, 3) := by decide +kernel
theorem dX8_expand_17 : decode cX8_expand 17 = .ok (.bipush (-3), 2) := by decide +kernel
theorem dX8_expand_19 : decode cX8_expand 19 = .ok (.ireturn, 1) := by decide +kernel
theorem dX8_expand_20 : decode cX8_expand 20 = .ok (.aload_n 0, 1) := by decide +kernel
theorem dX8_expand_21 : decode cX8_expand 21 = .ok (.iload_n 1, 1) := by decide +kernel
theorem dX8_expand_22 : decode cX8_expand 22 = .ok (.aload_n 0, 1) := by decide +kernel
theorem dX8_expand_23 : decode cX8_expand 23 = .ok (.getfield 86, 3) := by decide +kernel
theorem dX8_expand_26 : decode cX8_expand 26 = .ok (.invokevirtual 260, 3) := by decide +kernel
theorem dX8_expand_29 : decode cX8_expand 29 = .ok (.aload_n 0, 1) := by decide +kernel
theorem dX8_expand_30 : decode cX8_expand 30 = .ok (.aload_n 0, 1) := by decide +kernel
theorem dX8_expand_31 : decode cX8_expand 31 = .ok (.getfield 16, 3) := by decide +kernel
theorem dX8_expand_34 : decode cX8_expand 34 = .ok (.iconst 0, 1) := by decide +kernel
theorem dX8_expand_35 : decode cX8_expand 35 = .ok (.aload_n 0, 1) := by decide +kernel
theorem dX8_expand_36 : decode cX8_expand 36 = .ok (.getfield 86, 3) := by decide +kernel
theorem dX8_expand_39 : decode cX8_expand 39 = .ok (.invokevirtual 267, 3) := by decide +kernel
theorem dX8_expand_42 : decode cX8_expand 42 = .ok (.aload_n 0, 1) := by decide +kernel
theorem dX8_expand_43 : decode cX8_expand 43 = .ok (.getfield 101, 3) := by decide +kernel
theorem dX8_expand_46 : decode cX8_expand 46 = .ok (.iload_n 2, 1) := by decide +kernel
theorem dX8_expand_47 : decode cX8_expand 47 = .ok (.iaload, 1) := by decide +kernel
theorem dX8_expand_48 : decode cX8_expand 48 = .ok (.ireturn, 1) := by decide +kernel
theorem dX8_sum_0 : decode cX8_sum 0 = .ok (.iload_n 1, 1) := by decide +kernel
theorem dX8_sum_1 : decode cX8_sum 1 = .ok (.iconst 0, 1) := by decide +kernel
theorem dX8_sum_2 : decode cX8_sum 2 = .ok (.sipush 500, 3) := by decide +kernel
theorem dX8_sum_5 : decode cX8_sum 5 = .ok (.invokestatic 104, 3) := by decide +kernel
theorem dX8_sum_8 : decode cX8_sum 8 = .ok (.ifCond .ne 6, 3) := by decide +kernel
theorem dX8_sum_11 : decode cX8_sum 11 = .ok (.bipush (-3), 2) := by decide +kernel
theorem dX8_sum_13 : decode cX8_sum 13 = .ok (.ireturn, 1) := by decide +kernel
theorem dX8_sum_14 : decode cX8_sum 14 = .ok (.iconst 0, 1) := by decide +kernel
theorem dX8_sum_15 : decode cX8_sum 15 = .ok (.istore_n 2, 1) := by decide +kernel
theorem dX8_sum_16 : decode cX8_sum 16 = .ok (.iconst 0, 1) := by decide +kernel
theorem dX8_sum_17 : decode cX8_sum 17 = .ok (.istore_n 3, 1) := by decide +kernel
theorem dX8_sum_18 : decode cX8_sum 18 = .ok (.iload_n 3, 1) := by decide +kernel
theorem dX8_sum_19 : decode cX8_sum 19 = .ok (.iload_n 1, 1) := by decide +kernel
theorem dX8_sum_20 : decode cX8_sum 20 = .ok (.if_icmp .ge 23, 3) := by decide +kernel
theorem dX8_sum_23 : decode cX8_sum 23 = .ok (.iload_n 2, 1) := by decide +kernel
theorem dX8_sum_24 : decode cX8_sum 24 = .ok (.aload_n 0, 1) := by decide +kernel
theorem dX8_sum_25 : decode cX8_sum 25 = .ok (.getfield 16, 3) := by decide +kernel
theorem dX8_sum_28 : decode cX8_sum 28 = .ok (.iconst 0, 1) := by decide +kernel
theorem dX8_sum_29 : decode cX8_sum 29 = .ok (.iload_n 3, 1) := by decide +kernel
theorem dX8_sum_30 : decode cX8_sum 30 = .ok (.invokestatic 263, 3) := by decide +kernel
theorem dX8_sum_33 : decode cX8_sum 33 = .ok (.invokestatic 119, 3) := by decide +kernel
theorem dX8_sum_36 : decode cX8_sum 36 = .ok (.istore_n 2, 1) := by decide +kernel
theorem dX8_sum_37 : decode cX8_sum 37 = .ok (.iinc 3 1, 3) := by decide +kernel
theorem dX8_sum_40 : decode cX8_sum 40 = .ok (.goto (-22), 3) := by decide +kernel
theorem dX8_sum_43 : decode cX8_sum 43 = .ok (.iload_n 2, 1) := by decide +kernel
theorem dX8_sum_44 : decode cX8_sum 44 = .ok (.ireturn, 1) := by decide +kernel
theorem dX8_many_0 : decode cX8_many 0 = .ok (.iconst 0, 1) := by decide +kernel
theorem dX8_many_1 : decode cX8_many 1 = .ok (.istore_n 1, 1) := by decide +kernel
theorem dX8_many_2 : decode cX8_many 2 = .ok (.iconst 0, 1) := by decide +kernel
theorem dX8_many_3 : decode cX8_many 3 = .ok (.istore_n 2, 1) := by decide +kernel
theorem dX8_many_4 : decode cX8_many 4 = .ok (.iload_n 2, 1) := by decide +kernel
theorem dX8_many_5 : decode cX8_many 5 = .ok (.bipush 9, 2) := by decide +kernel
theorem dX8_many_7 : decode cX8_many 7 = .ok (.if_icmp .ge 26, 3) := by decide +kernel
theorem dX8_many_10 : decode cX8_many 10 = .ok (.iload_n 1, 1) := by decide +kernel
theorem dX8_many_11 : decode cX8_many 11 = .ok (.aload_n 0, 1) := by decide +kernel
theorem dX8_many_12 : decode cX8_many 12 = .ok (.getfield 16, 3) := by decide +kernel
theorem dX8_many_15 : decode cX8_many 15 = .ok (.iload_n 2, 1) := by decide +kernel
theorem dX8_many_16 : decode cX8_many 16 = .ok (.iaload, 1) := by decide +kernel
theorem dX8_many_17 : decode cX8_many 17 = .ok (.ifCond .ne 7, 3) := by decide +kernel
theorem dX8_many_20 : decode cX8_many 20 = .ok (.iconst 0, 1) := by decide +kernel
theorem dX8_many_21 : decode cX8_many 21 = .ok (.goto 4, 3) := by decide +kernel
theorem dX8_many_24 : decode cX8_many 24 = .ok (.iconst 1, 1) := by decide +kernel
theorem dX8_many_25 : decode cX8_many 25 = .ok (.iadd, 1) := by decide +kernel
theorem dX8_many_26 : decode cX8_many 26 = .ok (.istore_n 1, 1) := by decide +kernel
theorem dX8_many_27 : decode cX8_many 27 = .ok (.iinc 2 1, 3) := by decide +kernel
theorem dX8_many_30 : decode cX8_many 30 = .ok (.goto (-26), 3) := by decide +kernel
theorem dX8_many_33 : decode cX8_many 33 = .ok (.iload_n 1, 1) := by decide +kernel
theorem dX8_many_34 : decode cX8_many 34 = .ok (.ireturn, 1) := by decide +kernel
theorem dX8_keep_0 : decode cX8_keep 0 = .ok (.iload_n 1, 1) := by decide +kernel
theorem dX8_keep_1 : decode cX8_keep 1 = .ok (.iconst 0, 1) := by decide +kernel
theorem dX8_keep_2 : decode cX8_keep 2 = .ok (.iconst 1, 1) := by decide +kernel
theorem dX8_keep_3 : decode cX8_keep 3 = .ok (.invokestatic 104, 3) := by decide +kernel
theorem dX8_keep_6 : decode cX8_keep 6 = .ok (.ifCond .ne 6, 3) := by decide +kernel
theorem dX8_keep_9 : decode cX8_keep 9 = .ok (.bipush (-3), 2) := by decide +kernel
theorem dX8_keep_11 : decode cX8_keep 11 = .ok (.ireturn, 1) := by decide +kernel
theorem dX8_keep_12 : decode cX8_keep 12 = .ok (.aload_n 0, 1) := by decide +kernel
theorem dX8_keep_13 : decode cX8_keep 13 = .ok (.getfield 25, 3) := by decide +kernel
theorem dX8_keep_16 : decode cX8_keep 16 = .ok (.iload_n 1, 1) := by decide +kernel
theorem dX8_keep_17 : decode cX8_keep 17 = .ok (.iconst 1, 1) := by decide +kernel
theorem dX8_keep_18 : decode cX8_keep 18 = .ok (.bastore, 1) := by decide +kernel
theorem dX8_keep_19 : decode cX8_keep 19 = .ok (.aload_n 0, 1) := by decide +kernel
theorem dX8_keep_20 : decode cX8_keep 20 = .ok (.getfield 7, 3) := by decide +kernel
theorem dX8_keep_23 : decode cX8_keep 23 = .ok (.iconst 0, 1) := by decide +kernel
theorem dX8_keep_24 : decode cX8_keep 24 = .ok (.aload_n 0, 1) := by decide +kernel
theorem dX8_keep_25 : decode cX8_keep 25 = .ok (.getfield 22, 3) := by decide +kernel
theorem dX8_keep_28 : decode cX8_keep 28 = .ok (.bipush 81, 2) := by decide +kernel
theorem dX8_keep_30 : decode cX8_keep 30 = .ok (.iload_n 1, 1) := by decide +kernel
theorem dX8_keep_31 : decode cX8_keep 31 = .ok (.imul, 1) := by decide +kernel
theorem dX8_keep_32 : decode cX8_keep 32 = .ok (.bipush 36, 2) := by decide +kernel
theorem dX8_keep_34 : decode cX8_keep 34 = .ok (.invokestatic 112, 3) := by decide +kernel
theorem dX8_keep_37 : decode cX8_keep 37 = .ok (.aload_n 0, 1) := by decide +kernel
theorem dX8_keep_38 : decode cX8_keep 38 = .ok (.getfield 13, 3) := by decide +kernel
theorem dX8_keep_41 : decode cX8_keep 41 = .ok (.iconst 0, 1) := by decide +kernel
theorem dX8_keep_42 : decode cX8_keep 42 = .ok (.aload_n 0, 1) := by decide +kernel
theorem dX8_keep_43 : decode cX8_keep 43 = .ok (.getfield 22, 3) := by decide +kernel
theorem dX8_keep_46 : decode cX8_keep 46 = .ok (.bipush 81, 2) := by decide +kernel
theorem dX8_keep_48 : decode cX8_keep 48 = .ok (.iload_n 1, 1) := by decide +kernel
theorem dX8_keep_49 : decode cX8_keep 49 = .ok (.imul, 1) := by decide +kernel
theorem dX8_keep_50 : decode cX8_keep 50 = .ok (.bipush 36, 2) := by decide +kernel
theorem dX8_keep_52 : decode cX8_keep 52 = .ok (.iadd, 1) := by decide +kernel
theorem dX8_keep_53 : decode cX8_keep 53 = .ok (.bipush 36, 2) := by decide +kernel
theorem dX8_keep_55 : decode cX8_keep 55 = .ok (.invokestatic 112, 3) := by decide +kernel
theorem dX8_keep_58 : decode cX8_keep 58 = .ok (.aload_n 0, 1) := by decide +kernel
theorem dX8_keep_59 : decode cX8_keep 59 = .ok (.getfield 16, 3) := by decide +kernel
theorem dX8_keep_62 : decode cX8_keep 62 = .ok (.iconst 0, 1) := by decide +kernel
theorem dX8_keep_63 : decode cX8_keep 63 = .ok (.aload_n 0, 1) := by decide +kernel
theorem dX8_keep_64 : decode cX8_keep 64 = .ok (.getfield 22, 3) := by decide +kernel
theorem dX8_keep_67 : decode cX8_keep 67 = .ok (.bipush 81, 2) := by decide +kernel
theorem dX8_keep_69 : decode cX8_keep 69 = .ok (.iload_n 1, 1) := by decide +kernel
theorem dX8_keep_70 : decode cX8_keep 70 = .ok (.imul, 1) := by decide +kernel
theorem dX8_keep_71 : decode cX8_keep 71 = .ok (.bipush 72, 2) := by decide +kernel
theorem dX8_keep_73 : decode cX8_keep 73 = .ok (.iadd, 1) := by decide +kernel
theorem dX8_keep_74 : decode cX8_keep 74 = .ok (.bipush 9, 2) := by decide +kernel
theorem dX8_keep_76 : decode cX8_keep 76 = .ok (.invokestatic 112, 3) := by decide +kernel
theorem dX8_keep_79 : decode cX8_keep 79 = .ok (.aload_n 0, 1) := by decide +kernel
theorem dX8_keep_80 : decode cX8_keep 80 = .ok (.invokevirtual 280, 3) := by decide +kernel
theorem dX8_keep_83 : decode cX8_keep 83 = .ok (.ireturn, 1) := by decide +kernel
theorem dX8_back_0 : decode cX8_back 0 = .ok (.iload_n 1, 1) := by decide +kernel
theorem dX8_back_1 : decode cX8_back 1 = .ok (.iconst 0, 1) := by decide +kernel
theorem dX8_back_2 : decode cX8_back 2 = .ok (.iconst 1, 1) := by decide +kernel
theorem dX8_back_3 : decode cX8_back 3 = .ok (.invokestatic 104, 3) := by decide +kernel
theorem dX8_back_6 : decode cX8_back 6 = .ok (.ifCond .ne 6, 3) := by decide +kernel
theorem dX8_back_9 : decode cX8_back 9 = .ok (.bipush (-3), 2) := by decide +kernel
theorem dX8_back_11 : decode cX8_back 11 = .ok (.ireturn, 1) := by decide +kernel
theorem dX8_back_12 : decode cX8_back 12 = .ok (.aload_n 0, 1) := by decide +kernel
theorem dX8_back_13 : decode cX8_back 13 = .ok (.getfield 25, 3) := by decide +kernel
theorem dX8_back_16 : decode cX8_back 16 = .ok (.iload_n 1, 1) := by decide +kernel
theorem dX8_back_17 : decode cX8_back 17 = .ok (.baload, 1) := by decide +kernel
theorem dX8_back_18 : decode cX8_back 18 = .ok (.ifCond .ne 6, 3) := by decide +kernel
theorem dX8_back_21 : decode cX8_back 21 = .ok (.bipush (-4), 2) := by decide +kernel
theorem dX8_back_23 : decode cX8_back 23 = .ok (.ireturn, 1) := by decide +kernel
theorem dX8_back_24 : decode cX8_back 24 = .ok (.aload_n 0, 1) := by decide +kernel
theorem dX8_back_25 : decode cX8_back 25 = .ok (.getfield 22, 3) := by decide +kernel
theorem dX8_back_28 : decode cX8_back 28 = .ok (.bipush 81, 2) := by decide +kernel
theorem dX8_back_30 : decode cX8_back 30 = .ok (.iload_n 1, 1) := by decide +kernel
theorem dX8_back_31 : decode cX8_back 31 = .ok (.imul, 1) := by decide +kernel
theorem dX8_back_32 : decode cX8_back 32 = .ok (.aload_n 0, 1) := by decide +kernel
theorem dX8_back_33 : decode cX8_back 33 = .ok (.getfield 7, 3) := by decide +kernel
theorem dX8_back_36 : decode cX8_back 36 = .ok (.iconst 0, 1) := by decide +kernel
theorem dX8_back_37 : decode cX8_back 37 = .ok (.bipush 36, 2) := by decide +kernel
theorem dX8_back_39 : decode cX8_back 39 = .ok (.invokestatic 112, 3) := by decide +kernel
theorem dX8_back_42 : decode cX8_back 42 = .ok (.aload_n 0, 1) := by decide +kernel
theorem dX8_back_43 : decode cX8_back 43 = .ok (.getfield 22, 3) := by decide +kernel
theorem dX8_back_46 : decode cX8_back 46 = .ok (.bipush 81, 2) := by decide +kernel
theorem dX8_back_48 : decode cX8_back 48 = .ok (.iload_n 1, 1) := by decide +kernel
theorem dX8_back_49 : decode cX8_back 49 = .ok (.imul, 1) := by decide +kernel
theorem dX8_back_50 : decode cX8_back 50 = .ok (.bipush 36, 2) := by decide +kernel
theorem dX8_back_52 : decode cX8_back 52 = .ok (.iadd, 1) := by decide +kernel
theorem dX8_back_53 : decode cX8_back 53 = .ok (.aload_n 0, 1) := by decide +kernel
theorem dX8_back_54 : decode cX8_back 54 = .ok (.getfield 13, 3) := by decide +kernel
theorem dX8_back_57 : decode cX8_back 57 = .ok (.iconst 0, 1) := by decide +kernel
theorem dX8_back_58 : decode cX8_back 58 = .ok (.bipush 36, 2) := by decide +kernel
theorem dX8_back_60 : decode cX8_back 60 = .ok (.invokestatic 112, 3) := by decide +kernel
theorem dX8_back_63 : decode cX8_back 63 = .ok (.aload_n 0, 1) := by decide +kernel
theorem dX8_back_64 : decode cX8_back 64 = .ok (.getfield 22, 3) := by decide +kernel
theorem dX8_back_67 : decode cX8_back 67 = .ok (.bipush 81, 2) := by decide +kernel
theorem dX8_back_69 : decode cX8_back 69 = .ok (.iload_n 1, 1) := by decide +kernel
theorem dX8_back_70 : decode cX8_back 70 = .ok (.imul, 1) := by decide +kernel
theorem dX8_back_71 : decode cX8_back 71 = .ok (.bipush 72, 2) := by decide +kernel
theorem dX8_back_73 : decode cX8_back 73 = .ok (.iadd, 1) := by decide +kernel
theorem dX8_back_74 : decode cX8_back 74 = .ok (.aload_n 0, 1) := by decide +kernel
theorem dX8_back_75 : decode cX8_back 75 = .ok (.getfield 16, 3) := by decide +kernel
theorem dX8_back_78 : decode cX8_back 78 = .ok (.iconst 0, 1) := by decide +kernel
theorem dX8_back_79 : decode cX8_back 79 = .ok (.bipush 9, 2) := by decide +kernel
theorem dX8_back_81 : decode cX8_back 81 = .ok (.invokestatic 112, 3) := by decide +kernel
theorem dX8_back_84 : decode cX8_back 84 = .ok (.aload_n 0, 1) := by decide +kernel
theorem dX8_back_85 : decode cX8_back 85 = .ok (.iconst 0, 1) := by decide +kernel
theorem dX8_back_86 : decode cX8_back 86 = .ok (.putfield 270, 3) := by decide +kernel
theorem dX8_back_89 : decode cX8_back 89 = .ok (.aload_n 0, 1) := by decide +kernel
theorem dX8_back_90 : decode cX8_back 90 = .ok (.invokevirtual 280, 3) := by decide +kernel
theorem dX8_back_93 : decode cX8_back 93 = .ok (.ireturn, 1) := by decide +kernel
theorem dX8_leastOf_0 : decode cX8_leastOf 0 = .ok (.iconst 2, 1) := by decide +kernel
theorem dX8_leastOf_1 : decode cX8_leastOf 1 = .ok (.istore_n 2, 1) := by decide +kernel
theorem dX8_leastOf_2 : decode cX8_leastOf 2 = .ok (.iload_n 2, 1) := by decide +kernel
theorem dX8_leastOf_3 : decode cX8_leastOf 3 = .ok (.bipush 9, 2) := by decide +kernel
theorem dX8_leastOf_5 : decode cX8_leastOf 5 = .ok (.if_icmp .ge 25, 3) := by decide +kernel
theorem dX8_leastOf_8 : decode cX8_leastOf 8 = .ok (.aload_n 0, 1) := by decide +kernel
theorem dX8_leastOf_9 : decode cX8_leastOf 9 = .ok (.getfield 13, 3) := by decide +kernel
theorem dX8_leastOf_12 : decode cX8_leastOf 12 = .ok (.bipush 9, 2) := by decide +kernel
theorem dX8_leastOf_14 : decode cX8_leastOf 14 = .ok (.iload_n 1, 1) := by decide +kernel
theorem dX8_leastOf_15 : decode cX8_leastOf 15 = .ok (.imul, 1) := by decide +kernel
theorem dX8_leastOf_16 : decode cX8_leastOf 16 = .ok (.iload_n 2, 1) := by decide +kernel
theorem dX8_leastOf_17 : decode cX8_leastOf 17 = .ok (.iadd, 1) := by decide +kernel
theorem dX8_leastOf_18 : decode cX8_leastOf 18 = .ok (.iaload, 1) := by decide +kernel
theorem dX8_leastOf_19 : decode cX8_leastOf 19 = .ok (.ifCond .eq 5, 3) := by decide +kernel
theorem dX8_leastOf_22 : decode cX8_leastOf 22 = .ok (.iload_n 2, 1) := by decide +kernel
theorem dX8_leastOf_23 : decode cX8_leastOf 23 = .ok (.ireturn, 1) := by decide +kernel
theorem dX8_leastOf_24 : decode cX8_leastOf 24 = .ok (.iinc 2 1, 3) := by decide +kernel
theorem dX8_leastOf_27 : decode cX8_leastOf 27 = .ok (.goto (-25), 3) := by decide +kernel
theorem dX8_leastOf_30 : decode cX8_leastOf 30 = .ok (.iconst (-1), 1) := by decide +kernel
theorem dX8_leastOf_31 : decode cX8_leastOf 31 = .ok (.ireturn, 1) := by decide +kernel
theorem dX8_degree_0 : decode cX8_degree 0 = .ok (.bipush 8, 2) := by decide +kernel
theorem dX8_degree_2 : decode cX8_degree 2 = .ok (.istore_n 1, 1) := by decide +kernel
theorem dX8_degree_3 : decode cX8_degree 3 = .ok (.iload_n 1, 1) := by decide +kernel
theorem dX8_degree_4 : decode cX8_degree 4 = .ok (.ifCond .lt 18, 3) := by decide +kernel
theorem dX8_degree_7 : decode cX8_degree 7 = .ok (.aload_n 0, 1) := by decide +kernel
theorem dX8_degree_8 : decode cX8_degree 8 = .ok (.getfield 16, 3) := by decide +kernel
theorem dX8_degree_11 : decode cX8_degree 11 = .ok (.iload_n 1, 1) := by decide +kernel
theorem dX8_degree_12 : decode cX8_degree 12 = .ok (.iaload, 1) := by decide +kernel
theorem dX8_degree_13 : decode cX8_degree 13 = .ok (.ifCond .ne 9, 3) := by decide +kernel
theorem dX8_degree_16 : decode cX8_degree 16 = .ok (.iinc 1 (-1), 3) := by decide +kernel
theorem dX8_degree_19 : decode cX8_degree 19 = .ok (.goto (-16), 3) := by decide +kernel
theorem dX8_degree_22 : decode cX8_degree 22 = .ok (.iload_n 1, 1) := by decide +kernel
theorem dX8_degree_23 : decode cX8_degree 23 = .ok (.ireturn, 1) := by decide +kernel
theorem dX8_count_0 : decode cX8_count 0 = .ok (.iload_n 1, 1) := by decide +kernel
theorem dX8_count_1 : decode cX8_count 1 = .ok (.iconst 0, 1) := by decide +kernel
theorem dX8_count_2 : decode cX8_count 2 = .ok (.bipush 6, 2) := by decide +kernel
theorem dX8_count_4 : decode cX8_count 4 = .ok (.invokestatic 104, 3) := by decide +kernel
theorem dX8_count_7 : decode cX8_count 7 = .ok (.ifCond .ne 6, 3) := by decide +kernel
theorem dX8_count_10 : decode cX8_count 10 = .ok (.bipush (-3), 2) := by decide +kernel
theorem dX8_count_12 : decode cX8_count 12 = .ok (.ireturn, 1) := by decide +kernel
theorem dX8_count_13 : decode cX8_count 13 = .ok (.iload_n 1, 1) := by decide +kernel
theorem dX8_count_14 : decode cX8_count 14 = .ok (.ifCond .ne 10, 3) := by decide +kernel
theorem dX8_count_17 : decode cX8_count 17 = .ok (.aload_n 0, 1) := by decide +kernel
theorem dX8_count_18 : decode cX8_count 18 = .ok (.invokevirtual 283, 3) := by decide +kernel
theorem dX8_count_21 : decode cX8_count 21 = .ok (.goto 34, 3) := by decide +kernel
theorem dX8_count_24 : decode cX8_count 24 = .ok (.iload_n 1, 1) := by decide +kernel
theorem dX8_count_25 : decode cX8_count 25 = .ok (.iconst 1, 1) := by decide +kernel
theorem dX8_count_26 : decode cX8_count 26 = .ok (.if_icmp .ne 10, 3) := by decide +kernel
theorem dX8_count_29 : decode cX8_count 29 = .ok (.aload_n 0, 1) := by decide +kernel
theorem dX8_count_30 : decode cX8_count 30 = .ok (.getfield 270, 3) := by decide +kernel
theorem dX8_count_33 : decode cX8_count 33 = .ok (.goto 22, 3) := by decide +kernel
theorem dX8_count_36 : decode cX8_count 36 = .ok (.iload_n 1, 1) := by decide +kernel
theorem dX8_count_37 : decode cX8_count 37 = .ok (.iconst 2, 1) := by decide +kernel
theorem dX8_count_38 : decode cX8_count 38 = .ok (.if_icmp .ne 10, 3) := by decide +kernel
theorem dX8_count_41 : decode cX8_count 41 = .ok (.aload_n 0, 1) := by decide +kernel
theorem dX8_count_42 : decode cX8_count 42 = .ok (.getfield 144, 3) := by decide +kernel
theorem dX8_count_45 : decode cX8_count 45 = .ok (.goto 10, 3) := by decide +kernel
theorem dX8_count_48 : decode cX8_count 48 = .ok (.aload_n 0, 1) := by decide +kernel
theorem dX8_count_49 : decode cX8_count 49 = .ok (.iload_n 1, 1) := by decide +kernel
theorem dX8_count_50 : decode cX8_count 50 = .ok (.iconst 3, 1) := by decide +kernel
theorem dX8_count_51 : decode cX8_count 51 = .ok (.isub, 1) := by decide +kernel
theorem dX8_count_52 : decode cX8_count 52 = .ok (.invokevirtual 286, 3) := by decide +kernel
theorem dX8_count_55 : decode cX8_count 55 = .ok (.ireturn, 1) := by decide +kernel
end
section
theorem dJ9_min_7cf53_0 : decode cJ9_min_7cf53 0 = .ok (.iload_n 0, 1) := by decide +kernel
theorem dJ9_min_7cf53_1 : decode cJ9_min_7cf53 1 = .ok (.iload_n 1, 1) := by decide +kernel
theorem dJ9_min_7cf53_2 : decode cJ9_min_7cf53 2 = .ok (.if_icmp .gt 7, 3) := by decide +kernel
theorem dJ9_min_7cf53_5 : decode cJ9_min_7cf53 5 = .ok (.iload_n 0, 1) := by decide +kernel
theorem dJ9_min_7cf53_6 : decode cJ9_min_7cf53 6 = .ok (.goto 4, 3) := by decide +kernel
theorem dJ9_min_7cf53_9 : decode cJ9_min_7cf53 9 = .ok (.iload_n 1, 1) := by decide +kernel
theorem dJ9_min_7cf53_10 : decode cJ9_min_7cf53 10 = .ok (.ireturn, 1) := by decide +kernel
theorem dL_law_0 : decode cL_law 0 = .ok (.new 7, 3) := by decide +kernel
theorem dL_law_3 : decode cL_law 3 = .ok (.dup, 1) := by decide +kernel
theorem dL_law_4 : decode cL_law 4 = .ok (.invokespecial 9, 3) := by decide +kernel
theorem dL_law_7 : decode cL_law 7 = .ok (.astore_n 1, 1) := by decide +kernel
theorem dL_law_8 : decode cL_law 8 = .ok (.new 10, 3) := by decide +kernel
theorem dL_law_11 : decode cL_law 11 = .ok (.dup, 1) := by decide +kernel
theorem dL_law_12 : decode cL_law 12 = .ok (.invokespecial 12, 3) := by decide +kernel
theorem dL_law_15 : decode cL_law 15 = .ok (.astore_n 2, 1) := by decide +kernel
theorem dL_law_16 : decode cL_law 16 = .ok (.iconst 0, 1) := by decide +kernel
theorem dL_law_17 : decode cL_law 17 = .ok (.istore_n 3, 1) := by decide +kernel
theorem dL_law_18 : decode cL_law 18 = .ok (.iload_n 3, 1) := by decide +kernel
theorem dL_law_19 : decode cL_law 19 = .ok (.aload_n 0, 1) := by decide +kernel
theorem dL_law_20 : decode cL_law 20 = .ok (.arraylength, 1) := by decide +kernel
theorem dL_law_21 : decode cL_law 21 = .ok (.iconst 5, 1) := by decide +kernel
theorem dL_law_22 : decode cL_law 22 = .ok (.isub, 1) := by decide +kernel
theorem dL_law_23 : decode cL_law 23 = .ok (.if_icmp .gt 1115, 3) := by decide +kernel
theorem dL_law_26 : decode cL_law 26 = .ok (.aload_n 0, 1) := by decide +kernel
theorem dL_law_27 : decode cL_law 27 = .ok (.iload_n 3, 1) := by decide +kernel
theorem dL_law_28 : decode cL_law 28 = .ok (.iaload, 1) := by decide +kernel
theorem dL_law_29 : decode cL_law 29 = .ok (.bipush 31, 2) := by decide +kernel
theorem dL_law_31 : decode cL_law 31 = .ok (.iand, 1) := by decide +kernel
theorem dL_law_32 : decode cL_law 32 = .ok (.tableswitch 1100 0 31 #[144, 167, 180, 193, 216, 259, 292, 335, 378, 421, 464, 507, 550, 603, 636, 669, 702, 745, 778, 801, 824, 837, 870, 893, 916, 929, 952, 975, 1008, 1031, 1054, 1077], 144) := by decide +kernel
theorem dL_law_176 : decode cL_law 176 = .ok (.aload_n 1, 1) := by decide +kernel
theorem dL_law_177 : decode cL_law 177 = .ok (.aload_n 0, 1) := by decide +kernel
theorem dL_law_178 : decode cL_law 178 = .ok (.iload_n 3, 1) := by decide +kernel
theorem dL_law_179 : decode cL_law 179 = .ok (.iconst 1, 1) := by decide +kernel
theorem dL_law_180 : decode cL_law 180 = .ok (.iadd, 1) := by decide +kernel
theorem dL_law_181 : decode cL_law 181 = .ok (.iaload, 1) := by decide +kernel
theorem dL_law_182 : decode cL_law 182 = .ok (.invokevirtual 13, 3) := by decide +kernel
theorem dL_law_185 : decode cL_law 185 = .ok (.aload_n 2, 1) := by decide +kernel
theorem dL_law_186 : decode cL_law 186 = .ok (.aload_n 0, 1) := by decide +kernel
theorem dL_law_187 : decode cL_law 187 = .ok (.iload_n 3, 1) := by decide +kernel
theorem dL_law_188 : decode cL_law 188 = .ok (.iconst 1, 1) := by decide +kernel
theorem dL_law_189 : decode cL_law 189 = .ok (.iadd, 1) := by decide +kernel
theorem dL_law_190 : decode cL_law 190 = .ok (.iaload, 1) := by decide +kernel
theorem dL_law_191 : decode cL_law 191 = .ok (.invokevirtual 17, 3) := by decide +kernel
theorem dL_law_194 : decode cL_law 194 = .ok (.if_icmp .eq 938, 3) := by decide +kernel
theorem dL_law_197 : decode cL_law 197 = .ok (.iconst 0, 1) := by decide +kernel
theorem dL_law_198 : decode cL_law 198 = .ok (.ireturn, 1) := by decide +kernel
theorem dL_law_199 : decode cL_law 199 = .ok (.aload_n 1, 1) := by decide +kernel
theorem dL_law_200 : decode cL_law 200 = .ok (.invokevirtual 18, 3) := by decide +kernel
theorem dL_law_203 : decode cL_law 203 = .ok (.aload_n 2, 1) := by decide +kernel
theorem dL_law_204 : decode cL_law 204 = .ok (.invokevirtual 22, 3) := by decide +kernel
theorem dL_law_207 : decode cL_law 207 = .ok (.if_icmp .eq 925, 3) := by decide +kernel
theorem dL_law_210 : decode cL_law 210 = .ok (.iconst 0, 1) := by decide +kernel
theorem dL_law_211 : decode cL_law 211 = .ok (.ireturn, 1) := by decide +kernel
theorem dL_law_212 : decode cL_law 212 = .ok (.aload_n 1, 1) := by decide +kernel
theorem dL_law_213 : decode cL_law 213 = .ok (.invokevirtual 23, 3) := by decide +kernel
theorem dL_law_216 : decode cL_law 216 = .ok (.aload_n 2, 1) := by decide +kernel
theorem dL_law_217 : decode cL_law 217 = .ok (.invokevirtual 26, 3) := by decide +kernel
theorem dL_law_220 : decode cL_law 220 = .ok (.if_icmp .eq 912, 3) := by decide +kernel
theorem dL_law_223 : decode cL_law 223 = .ok (.iconst 0, 1) := by decide +kernel
theorem dL_law_224 : decode cL_law 224 = .ok (.ireturn, 1) := by decide +kernel
theorem dL_law_225 : decode cL_law 225 = .ok (.aload_n 1, 1) := by decide +kernel
theorem dL_law_226 : decode cL_law 226 = .ok (.aload_n 0, 1) := by decide +kernel
theorem dL_law_227 : decode cL_law 227 = .ok (.iload_n 3, 1) := by decide +kernel
theorem dL_law_228 : decode cL_law 228 = .ok (.iconst 1, 1) := by decide +kernel
theorem dL_law_229 : decode cL_law 229 = .ok (.iadd, 1) := by decide +kernel
theorem dL_law_230 : decode cL_law 230 = .ok (.iaload, 1) := by decide +kernel
theorem dL_law_231 : decode cL_law 231 = .ok (.invokevirtual 27, 3) := by decide +kernel
theorem dL_law_234 : decode cL_law 234 = .ok (.aload_n 2, 1) := by decide +kernel
theorem dL_law_235 : decode cL_law 235 = .ok (.aload_n 0, 1) := by decide +kernel
theorem dL_law_236 : decode cL_law 236 = .ok (.iload_n 3, 1) := by decide +kernel
theorem dL_law_237 : decode cL_law 237 = .ok (.iconst 1, 1) := by decide +kernel
theorem dL_law_238 : decode cL_law 238 = .ok (.iadd, 1) := by decide +kernel
theorem dL_law_239 : decode cL_law 239 = .ok (.iaload, 1) := by decide +kernel
theorem dL_law_240 : decode cL_law 240 = .ok (.invokevirtual 30, 3) := by decide +kernel
theorem dL_law_243 : decode cL_law 243 = .ok (.if_icmp .eq 889, 3) := by decide +kernel
theorem dL_law_246 : decode cL_law 246 = .ok (.iconst 0, 1) := by decide +kernel
theorem dL_law_247 : decode cL_law 247 = .ok (.ireturn, 1) := by decide +kernel
theorem dL_law_248 : decode cL_law 248 = .ok (.aload_n 1, 1) := by decide +kernel
theorem dL_law_249 : decode cL_law 249 = .ok (.aload_n 0, 1) := by decide +kernel
theorem dL_law_250 : decode cL_law 250 = .ok (.iload_n 3, 1) := by decide +kernel
theorem dL_law_251 : decode cL_law 251 = .ok (.iconst 1, 1) := by decide +kernel
theorem dL_law_252 : decode cL_law 252 = .ok (.iadd, 1) := by decide +kernel
theorem dL_law_253 : decode cL_law 253 = .ok (.iaload, 1) := by decide +kernel
theorem dL_law_254 : decode cL_law 254 = .ok (.aload_n 0, 1) := by decide +kernel
theorem dL_law_255 : decode cL_law 255 = .ok (.iload_n 3, 1) := by decide +kernel
theorem dL_law_256 : decode cL_law 256 = .ok (.iconst 2, 1) := by decide +kernel
theorem dL_law_257 : decode cL_law 257 = .ok (.iadd, 1) := by decide +kernel
theorem dL_law_258 : decode cL_law 258 = .ok (.iaload, 1) := by decide +kernel
theorem dL_law_259 : decode cL_law 259 = .ok (.aload_n 0, 1) := by decide +kernel
theorem dL_law_260 : decode cL_law 260 = .ok (.iload_n 3, 1) := by decide +kernel
theorem dL_law_261 : decode cL_law 261 = .ok (.iconst 3, 1) := by decide +kernel
theorem dL_law_262 : decode cL_law 262 = .ok (.iadd, 1) := by decide +kernel
theorem dL_law_263 : decode cL_law 263 = .ok (.iaload, 1) := by decide +kernel
theorem dL_law_264 : decode cL_law 264 = .ok (.invokevirtual 31, 3) := by decide +kernel
theorem dL_law_267 : decode cL_law 267 = .ok (.aload_n 2, 1) := by decide +kernel
theorem dL_law_268 : decode cL_law 268 = .ok (.aload_n 0, 1) := by decide +kernel
theorem dL_law_269 : decode cL_law 269 = .ok (.iload_n 3, 1) := by decide +kernel
theorem dL_law_270 : decode cL_law 270 = .ok (.iconst 1, 1) := by decide +kernel
theorem dL_law_271 : decode cL_law 271 = .ok (.iadd, 1) := by decide +kernel
theorem dL_law_272 : decode cL_law 272 = .ok (.iaload, 1) := by decide +kernel
theorem dL_law_273 : decode cL_law 273 = .ok (.aload_n 0, 1) := by decide +kernel
theorem dL_law_274 : decode cL_law 274 = .ok (.iload_n 3, 1) := by decide +kernel
theorem dL_law_275 : decode cL_law 275 = .ok (.iconst 2, 1) := by decide +kernel
theorem dL_law_276 : decode cL_law 276 = .ok (.iadd, 1) := by decide +kernel
theorem dL_law_277 : decode cL_law 277 = .ok (.iaload, 1) := by decide +kernel
theorem dL_law_278 : decode cL_law 278 = .ok (.aload_n 0, 1) := by decide +kernel
theorem dL_law_279 : decode cL_law 279 = .ok (.iload_n 3, 1) := by decide +kernel
theorem dL_law_280 : decode cL_law 280 = .ok (.iconst 3, 1) := by decide +kernel
theorem dL_law_281 : decode cL_law 281 = .ok (.iadd, 1) := by decide +kernel
theorem dL_law_282 : decode cL_law 282 = .ok (.iaload, 1) := by decide +kernel
theorem dL_law_283 : decode cL_law 283 = .ok (.invokevirtual 35, 3) := by decide +kernel
theorem dL_law_286 : decode cL_law 286 = .ok (.if_icmp .eq 846, 3) := by decide +kernel
theorem dL_law_289 : decode cL_law 289 = .ok (.iconst 0, 1) := by decide +kernel
theorem dL_law_290 : decode cL_law 290 = .ok (.ireturn, 1) := by decide +kernel
theorem dL_law_291 : decode cL_law 291 = .ok (.aload_n 1, 1) := by decide +kernel
theorem dL_law_292 : decode cL_law 292 = .ok (.aload_n 0, 1) := by decide +kernel
theorem dL_law_293 : decode cL_law 293 = .ok (.iload_n 3, 1) := by decide +kernel
theorem dL_law_294 : decode cL_law 294 = .ok (.iconst 1, 1) := by decide +kernel
theorem dL_law_295 : decode cL_law 295 = .ok (.iadd, 1) := by decide +kernel
theorem dL_law_296 : decode cL_law 296 = .ok (.iaload, 1) := by decide +kernel
theorem dL_law_297 : decode cL_law 297 = .ok (.aload_n 0, 1) := by decide +kernel
theorem dL_law_298 : decode cL_law 298 = .ok (.iload_n 3, 1) := by decide +kernel
theorem dL_law_299 : decode cL_law 299 = .ok (.iconst 2, 1) := by decide +kernel
theorem dL_law_300 : decode cL_law 300 = .ok (.iadd, 1) := by decide +kernel
theorem dL_law_301 : decode cL_law 301 = .ok (.iaload, 1) := by decide +kernel
theorem dL_law_302 : decode cL_law 302 = .ok (.invokevirtual 36, 3) := by decide +kernel
theorem dL_law_305 : decode cL_law 305 = .ok (.aload_n 2, 1) := by decide +kernel
theorem dL_law_306 : decode cL_law 306 = .ok (.aload_n 0, 1) := by decide +kernel
theorem dL_law_307 : decode cL_law 307 = .ok (.iload_n 3, 1) := by decide +kernel
theorem dL_law_308 : decode cL_law 308 = .ok (.iconst 1, 1) := by decide +kernel
theorem dL_law_309 : decode cL_law 309 = .ok (.iadd, 1) := by decide +kernel
theorem dL_law_310 : decode cL_law 310 = .ok (.iaload, 1) := by decide +kernel
theorem dL_law_311 : decode cL_law 311 = .ok (.aload_n 0, 1) := by decide +kernel
theorem dL_law_312 : decode cL_law 312 = .ok (.iload_n 3, 1) := by decide +kernel
theorem dL_law_313 : decode cL_law 313 = .ok (.iconst 2, 1) := by decide +kernel
theorem dL_law_314 : decode cL_law 314 = .ok (.iadd, 1) := by decide +kernel
theorem dL_law_315 : decode cL_law 315 = .ok (.iaload, 1) := by decide +kernel
theorem dL_law_316 : decode cL_law 316 = .ok (.invokevirtual 40, 3) := by decide +kernel
theorem dL_law_319 : decode cL_law 319 = .ok (.if_icmp .eq 813, 3) := by decide +kernel
theorem dL_law_322 : decode cL_law 322 = .ok (.iconst 0, 1) := by decide +kernel
theorem dL_law_323 : decode cL_law 323 = .ok (.ireturn, 1) := by decide +kernel
theorem dL_law_324 : decode cL_law 324 = .ok (.aload_n 1, 1) := by decide +kernel
theorem dL_law_325 : decode cL_law 325 = .ok (.aload_n 0, 1) := by decide +kernel
theorem dL_law_326 : decode cL_law 326 = .ok (.iload_n 3, 1) := by decide +kernel
theorem dL_law_327 : decode cL_law 327 = .ok (.iconst 1, 1) := by decide +kernel
theorem dL_law_328 : decode cL_law 328 = .ok (.iadd, 1) := by decide +kernel
theorem dL_law_329 : decode cL_law 329 = .ok (.iaload, 1) := by decide +kernel
theorem dL_law_330 : decode cL_law 330 = .ok (.aload_n 0, 1) := by decide +kernel
theorem dL_law_331 : decode cL_law 331 = .ok (.iload_n 3, 1) := by decide +kernel
theorem dL_law_332 : decode cL_law 332 = .ok (.iconst 2, 1) := by decide +kernel
theorem dL_law_333 : decode cL_law 333 = .ok (.iadd, 1) := by decide +kernel
theorem dL_law_334 : decode cL_law 334 = .ok (.iaload, 1) := by decide +kernel
theorem dL_law_335 : decode cL_law 335 = .ok (.aload_n 0, 1) := by decide +kernel
theorem dL_law_336 : decode cL_law 336 = .ok (.iload_n 3, 1) := by decide +kernel
theorem dL_law_337 : decode cL_law 337 = .ok (.iconst 3, 1) := by decide +kernel
theorem dL_law_338 : decode cL_law 338 = .ok (.iadd, 1) := by decide +kernel
theorem dL_law_339 : decode cL_law 339 = .ok (.iaload, 1) := by decide +kernel
theorem dL_law_340 : decode cL_law 340 = .ok (.invokevirtual 41, 3) := by decide +kernel
theorem dL_law_343 : decode cL_law 343 = .ok (.aload_n 2, 1) := by decide +kernel
theorem dL_law_344 : decode cL_law 344 = .ok (.aload_n 0, 1) := by decide +kernel
theorem dL_law_345 : decode cL_law 345 = .ok (.iload_n 3, 1) := by decide +kernel
theorem dL_law_346 : decode cL_law 346 = .ok (.iconst 1, 1) := by decide +kernel
theorem dL_law_347 : decode cL_law 347 = .ok (.iadd, 1) := by decide +kernel
theorem dL_law_348 : decode cL_law 348 = .ok (.iaload, 1) := by decide +kernel
theorem dL_law_349 : decode cL_law 349 = .ok (.aload_n 0, 1) := by decide +kernel
theorem dL_law_350 : decode cL_law 350 = .ok (.iload_n 3, 1) := by decide +kernel
theorem dL_law_351 : decode cL_law 351 = .ok (.iconst 2, 1) := by decide +kernel
theorem dL_law_352 : decode cL_law 352 = .ok (.iadd, 1) := by decide +kernel
theorem dL_law_353 : decode cL_law 353 = .ok (.iaload, 1) := by decide +kernel
theorem dL_law_354 : decode cL_law 354 = .ok (.aload_n 0, 1) := by decide +kernel
theorem dL_law_355 : decode cL_law 355 = .ok (.iload_n 3, 1) := by decide +kernel
theorem dL_law_356 : decode cL_law 356 = .ok (.iconst 3, 1) := by decide +kernel
theorem dL_law_357 : decode cL_law 357 = .ok (.iadd, 1) := by decide +kernel
theorem dL_law_358 : decode cL_law 358 = .ok (.iaload, 1) := by decide +kernel
theorem dL_law_359 : decode cL_law 359 = .ok (.invokevirtual 44, 3) := by decide +kernel
theorem dL_law_362 : decode cL_law 362 = .ok (.if_icmp .eq 770, 3) := by decide +kernel
theorem dL_law_365 : decode cL_law 365 = .ok (.iconst 0, 1) := by decide +kernel
theorem dL_law_366 : decode cL_law 366 = .ok (.ireturn, 1) := by decide +kernel
theorem dL_law_367 : decode cL_law 367 = .ok (.aload_n 1, 1) := by decide +kernel
theorem dL_law_368 : decode cL_law 368 = .ok (.aload_n 0, 1) := by decide +kernel
theorem dL_law_369 : decode cL_law 369 = .ok (.iload_n 3, 1) := by decide +kernel
theorem dL_law_370 : decode cL_law 370 = .ok (.iconst 1, 1) := by decide +kernel
theorem dL_law_371 : decode cL_law 371 = .ok (.iadd, 1) := by decide +kernel
theorem dL_law_372 : decode cL_law 372 = .ok (.iaload, 1) := by decide +kernel
theorem dL_law_373 : decode cL_law 373 = .ok (.aload_n 0, 1) := by decide +kernel
theorem dL_law_374 : decode cL_law 374 = .ok (.iload_n 3, 1) := by decide +kernel
theorem dL_law_375 : decode cL_law 375 = .ok (.iconst 2, 1) := by decide +kernel
theorem dL_law_376 : decode cL_law 376 = .ok (.iadd, 1) := by decide +kernel
theorem dL_law_377 : decode cL_law 377 = .ok (.iaload, 1) := by decide +kernel
theorem dL_law_378 : decode cL_law 378 = .ok (.aload_n 0, 1) := by decide +kernel
theorem dL_law_379 : decode cL_law 379 = .ok (.iload_n 3, 1) := by decide +kernel
theorem dL_law_380 : decode cL_law 380 = .ok (.iconst 3, 1) := by decide +kernel
theorem dL_law_381 : decode cL_law 381 = .ok (.iadd, 1) := by decide +kernel
theorem dL_law_382 : decode cL_law 382 = .ok (.iaload, 1) := by decide +kernel
theorem dL_law_383 : decode cL_law 383 = .ok (.invokevirtual 45, 3) := by decide +kernel
theorem dL_law_386 : decode cL_law 386 = .ok (.aload_n 2, 1) := by decide +kernel
theorem dL_law_387 : decode cL_law 387 = .ok (.aload_n 0, 1) := by decide +kernel
theorem dL_law_388 : decode cL_law 388 = .ok (.iload_n 3, 1) := by decide +kernel
theorem dL_law_389 : decode cL_law 389 = .ok (.iconst 1, 1) := by decide +kernel
theorem dL_law_390 : decode cL_law 390 = .ok (.iadd, 1) := by decide +kernel
theorem dL_law_391 : decode cL_law 391 = .ok (.iaload, 1) := by decide +kernel
theorem dL_law_392 : decode cL_law 392 = .ok (.aload_n 0, 1) := by decide +kernel
theorem dL_law_393 : decode cL_law 393 = .ok (.iload_n 3, 1) := by decide +kernel
theorem dL_law_394 : decode cL_law 394 = .ok (.iconst 2, 1) := by decide +kernel
theorem dL_law_395 : decode cL_law 395 = .ok (.iadd, 1) := by decide +kernel
theorem dL_law_396 : decode cL_law 396 = .ok (.iaload, 1) := by decide +kernel
theorem dL_law_397 : decode cL_law 397 = .ok (.aload_n 0, 1) := by decide +kernel
theorem dL_law_398 : decode cL_law 398 = .ok (.iload_n 3, 1) := by decide +kernel
theorem dL_law_399 : decode cL_law 399 = .ok (.iconst 3, 1) := by decide +kernel
theorem dL_law_400 : decode cL_law 400 = .ok (.iadd, 1) := by decide +kernel
theorem dL_law_401 : decode cL_law 401 = .ok (.iaload, 1) := by decide +kernel
theorem dL_law_402 : decode cL_law 402 = .ok (.invokevirtual 48, 3) := by decide +kernel
theorem dL_law_405 : decode cL_law 405 = .ok (.if_icmp .eq 727, 3) := by decide +kernel
theorem dL_law_408 : decode cL_law 408 = .ok (.iconst 0, 1) := by decide +kernel
theorem dL_law_409 : decode cL_law 409 = .ok (.ireturn, 1) := by decide +kernel
theorem dL_law_410 : decode cL_law 410 = .ok (.aload_n 1, 1) := by decide +kernel
theorem dL_law_411 : decode cL_law 411 = .ok (.aload_n 0, 1) := by decide +kernel
theorem dL_law_412 : decode cL_law 412 = .ok (.iload_n 3, 1) := by decide +kernel
theorem dL_law_413 : decode cL_law 413 = .ok (.iconst 1, 1) := by decide +kernel
theorem dL_law_414 : decode cL_law 414 = .ok (.iadd, 1) := by decide +kernel
theorem dL_law_415 : decode cL_law 415 = .ok (.iaload, 1) := by decide +kernel
theorem dL_law_416 : decode cL_law 416 = .ok (.aload_n 0, 1) := by decide +kernel
theorem dL_law_417 : decode cL_law 417 = .ok (.iload_n 3, 1) := by decide +kernel
theorem dL_law_418 : decode cL_law 418 = .ok (.iconst 2, 1) := by decide +kernel
theorem dL_law_419 : decode cL_law 419 = .ok (.iadd, 1) := by decide +kernel
theorem dL_law_420 : decode cL_law 420 = .ok (.iaload, 1) := by decide +kernel
theorem dL_law_421 : decode cL_law 421 = .ok (.aload_n 0, 1) := by decide +kernel
theorem dL_law_422 : decode cL_law 422 = .ok (.iload_n 3, 1) := by decide +kernel
theorem dL_law_423 : decode cL_law 423 = .ok (.iconst 3, 1) := by decide +kernel
theorem dL_law_424 : decode cL_law 424 = .ok (.iadd, 1) := by decide +kernel
theorem dL_law_425 : decode cL_law 425 = .ok (.iaload, 1) := by decide +kernel
theorem dL_law_426 : decode cL_law 426 = .ok (.invokevirtual 49, 3) := by decide +kernel
theorem dL_law_429 : decode cL_law 429 = .ok (.aload_n 2, 1) := by decide +kernel
theorem dL_law_430 : decode cL_law 430 = .ok (.aload_n 0, 1) := by decide +kernel
theorem dL_law_431 : decode cL_law 431 = .ok (.iload_n 3, 1) := by decide +kernel
theorem dL_law_432 : decode cL_law 432 = .ok (.iconst 1, 1) := by decide +kernel
theorem dL_law_433 : decode cL_law 433 = .ok (.iadd, 1) := by decide +kernel
theorem dL_law_434 : decode cL_law 434 = .ok (.iaload, 1) := by decide +kernel
theorem dL_law_435 : decode cL_law 435 = .ok (.aload_n 0, 1) := by decide +kernel
theorem dL_law_436 : decode cL_law 436 = .ok (.iload_n 3, 1) := by decide +kernel
theorem dL_law_437 : decode cL_law 437 = .ok (.iconst 2, 1) := by decide +kernel
theorem dL_law_438 : decode cL_law 438 = .ok (.iadd, 1) := by decide +kernel
theorem dL_law_439 : decode cL_law 439 = .ok (.iaload, 1) := by decide +kernel
theorem dL_law_440 : decode cL_law 440 = .ok (.aload_n 0, 1) := by decide +kernel
theorem dL_law_441 : decode cL_law 441 = .ok (.iload_n 3, 1) := by decide +kernel
theorem dL_law_442 : decode cL_law 442 = .ok (.iconst 3, 1) := by decide +kernel
theorem dL_law_443 : decode cL_law 443 = .ok (.iadd, 1) := by decide +kernel
theorem dL_law_444 : decode cL_law 444 = .ok (.iaload, 1) := by decide +kernel
theorem dL_law_445 : decode cL_law 445 = .ok (.invokevirtual 52, 3) := by decide +kernel
theorem dL_law_448 : decode cL_law 448 = .ok (.if_icmp .eq 684, 3) := by decide +kernel
theorem dL_law_451 : decode cL_law 451 = .ok (.iconst 0, 1) := by decide +kernel
theorem dL_law_452 : decode cL_law 452 = .ok (.ireturn, 1) := by decide +kernel
theorem dL_law_453 : decode cL_law 453 = .ok (.aload_n 1, 1) := by decide +kernel
theorem dL_law_454 : decode cL_law 454 = .ok (.aload_n 0, 1) := by decide +kernel
theorem dL_law_455 : decode cL_law 455 = .ok (.iload_n 3, 1) := by decide +kernel
theorem dL_law_456 : decode cL_law 456 = .ok (.iconst 1, 1) := by decide +kernel
theorem dL_law_457 : decode cL_law 457 = .ok (.iadd, 1) := by decide +kernel
theorem dL_law_458 : decode cL_law 458 = .ok (.iaload, 1) := by decide +kernel
theorem dL_law_459 : decode cL_law 459 = .ok (.aload_n 0, 1) := by decide +kernel
theorem dL_law_460 : decode cL_law 460 = .ok (.iload_n 3, 1) := by decide +kernel
theorem dL_law_461 : decode cL_law 461 = .ok (.iconst 2, 1) := by decide +kernel
theorem dL_law_462 : decode cL_law 462 = .ok (.iadd, 1) := by decide +kernel
theorem dL_law_463 : decode cL_law 463 = .ok (.iaload, 1) := by decide +kernel
theorem dL_law_464 : decode cL_law 464 = .ok (.aload_n 0, 1) := by decide +kernel
theorem dL_law_465 : decode cL_law 465 = .ok (.iload_n 3, 1) := by decide +kernel
theorem dL_law_466 : decode cL_law 466 = .ok (.iconst 3, 1) := by decide +kernel
theorem dL_law_467 : decode cL_law 467 = .ok (.iadd, 1) := by decide +kernel
theorem dL_law_468 : decode cL_law 468 = .ok (.iaload, 1) := by decide +kernel
theorem dL_law_469 : decode cL_law 469 = .ok (.invokevirtual 53, 3) := by decide +kernel
theorem dL_law_472 : decode cL_law 472 = .ok (.aload_n 2, 1) := by decide +kernel
theorem dL_law_473 : decode cL_law 473 = .ok (.aload_n 0, 1) := by decide +kernel
theorem dL_law_474 : decode cL_law 474 = .ok (.iload_n 3, 1) := by decide +kernel
theorem dL_law_475 : decode cL_law 475 = .ok (.iconst 1, 1) := by decide +kernel
theorem dL_law_476 : decode cL_law 476 = .ok (.iadd, 1) := by decide +kernel
theorem dL_law_477 : decode cL_law 477 = .ok (.iaload, 1) := by decide +kernel
theorem dL_law_478 : decode cL_law 478 = .ok (.aload_n 0, 1) := by decide +kernel
theorem dL_law_479 : decode cL_law 479 = .ok (.iload_n 3, 1) := by decide +kernel
theorem dL_law_480 : decode cL_law 480 = .ok (.iconst 2, 1) := by decide +kernel
theorem dL_law_481 : decode cL_law 481 = .ok (.iadd, 1) := by decide +kernel
theorem dL_law_482 : decode cL_law 482 = .ok (.iaload, 1) := by decide +kernel
theorem dL_law_483 : decode cL_law 483 = .ok (.aload_n 0, 1) := by decide +kernel
theorem dL_law_484 : decode cL_law 484 = .ok (.iload_n 3, 1) := by decide +kernel
theorem dL_law_485 : decode cL_law 485 = .ok (.iconst 3, 1) := by decide +kernel
theorem dL_law_486 : decode cL_law 486 = .ok (.iadd, 1) := by decide +kernel
theorem dL_law_487 : decode cL_law 487 = .ok (.iaload, 1) := by decide +kernel
theorem dL_law_488 : decode cL_law 488 = .ok (.invokevirtual 56, 3) := by decide +kernel
theorem dL_law_491 : decode cL_law 491 = .ok (.if_icmp .eq 641, 3) := by decide +kernel
theorem dL_law_494 : decode cL_law 494 = .ok (.iconst 0, 1) := by decide +kernel
theorem dL_law_495 : decode cL_law 495 = .ok (.ireturn, 1) := by decide +kernel
theorem dL_law_496 : decode cL_law 496 = .ok (.aload_n 1, 1) := by decide +kernel
theorem dL_law_497 : decode cL_law 497 = .ok (.aload_n 0, 1) := by decide +kernel
theorem dL_law_498 : decode cL_law 498 = .ok (.iload_n 3, 1) := by decide +kernel
theorem dL_law_499 : decode cL_law 499 = .ok (.iconst 1, 1) := by decide +kernel
theorem dL_law_500 : decode cL_law 500 = .ok (.iadd, 1) := by decide +kernel
theorem dL_law_501 : decode cL_law 501 = .ok (.iaload, 1) := by decide +kernel
theorem dL_law_502 : decode cL_law 502 = .ok (.aload_n 0, 1) := by decide +kernel
theorem dL_law_503 : decode cL_law 503 = .ok (.iload_n 3, 1) := by decide +kernel
theorem dL_law_504 : decode cL_law 504 = .ok (.iconst 2, 1) := by decide +kernel
theorem dL_law_505 : decode cL_law 505 = .ok (.iadd, 1) := by decide +kernel
theorem dL_law_506 : decode cL_law 506 = .ok (.iaload, 1) := by decide +kernel
theorem dL_law_507 : decode cL_law 507 = .ok (.aload_n 0, 1) := by decide +kernel
theorem dL_law_508 : decode cL_law 508 = .ok (.iload_n 3, 1) := by decide +kernel
theorem dL_law_509 : decode cL_law 509 = .ok (.iconst 3, 1) := by decide +kernel
theorem dL_law_510 : decode cL_law 510 = .ok (.iadd, 1) := by decide +kernel
theorem dL_law_511 : decode cL_law 511 = .ok (.iaload, 1) := by decide +kernel
theorem dL_law_512 : decode cL_law 512 = .ok (.invokevirtual 57, 3) := by decide +kernel
theorem dL_law_515 : decode cL_law 515 = .ok (.aload_n 2, 1) := by decide +kernel
theorem dL_law_516 : decode cL_law 516 = .ok (.aload_n 0, 1) := by decide +kernel
theorem dL_law_517 : decode cL_law 517 = .ok (.iload_n 3, 1) := by decide +kernel
theorem dL_law_518 : decode cL_law 518 = .ok (.iconst 1, 1) := by decide +kernel
theorem dL_law_519 : decode cL_law 519 = .ok (.iadd, 1) := by decide +kernel
theorem dL_law_520 : decode cL_law 520 = .ok (.iaload, 1) := by decide +kernel
theorem dL_law_521 : decode cL_law 521 = .ok (.aload_n 0, 1) := by decide +kernel
theorem dL_law_522 : decode cL_law 522 = .ok (.iload_n 3, 1) := by decide +kernel
theorem dL_law_523 : decode cL_law 523 = .ok (.iconst 2, 1) := by decide +kernel
theorem dL_law_524 : decode cL_law 524 = .ok (.iadd, 1) := by decide +kernel
theorem dL_law_525 : decode cL_law 525 = .ok (.iaload, 1) := by decide +kernel
theorem dL_law_526 : decode cL_law 526 = .ok (.aload_n 0, 1) := by decide +kernel
theorem dL_law_527 : decode cL_law 527 = .ok (.iload_n 3, 1) := by decide +kernel
theorem dL_law_528 : decode cL_law 528 = .ok (.iconst 3, 1) := by decide +kernel
theorem dL_law_529 : decode cL_law 529 = .ok (.iadd, 1) := by decide +kernel
theorem dL_law_530 : decode cL_law 530 = .ok (.iaload, 1) := by decide +kernel
theorem dL_law_531 : decode cL_law 531 = .ok (.invokevirtual 60, 3) := by decide +kernel
theorem dL_law_534 : decode cL_law 534 = .ok (.if_icmp .eq 598, 3) := by decide +kernel
theorem dL_law_537 : decode cL_law 537 = .ok (.iconst 0, 1) := by decide +kernel
theorem dL_law_538 : decode cL_law 538 = .ok (.ireturn, 1) := by decide +kernel
theorem dL_law_539 : decode cL_law 539 = .ok (.aload_n 1, 1) := by decide +kernel
theorem dL_law_540 : decode cL_law 540 = .ok (.aload_n 0, 1) := by decide +kernel
theorem dL_law_541 : decode cL_law 541 = .ok (.iload_n 3, 1) := by decide +kernel
theorem dL_law_542 : decode cL_law 542 = .ok (.iconst 1, 1) := by decide +kernel
theorem dL_law_543 : decode cL_law 543 = .ok (.iadd, 1) := by decide +kernel
theorem dL_law_544 : decode cL_law 544 = .ok (.iaload, 1) := by decide +kernel
theorem dL_law_545 : decode cL_law 545 = .ok (.aload_n 0, 1) := by decide +kernel
theorem dL_law_546 : decode cL_law 546 = .ok (.iload_n 3, 1) := by decide +kernel
theorem dL_law_547 : decode cL_law 547 = .ok (.iconst 2, 1) := by decide +kernel
theorem dL_law_548 : decode cL_law 548 = .ok (.iadd, 1) := by decide +kernel
theorem dL_law_549 : decode cL_law 549 = .ok (.iaload, 1) := by decide +kernel
theorem dL_law_550 : decode cL_law 550 = .ok (.aload_n 0, 1) := by decide +kernel
theorem dL_law_551 : decode cL_law 551 = .ok (.iload_n 3, 1) := by decide +kernel
theorem dL_law_552 : decode cL_law 552 = .ok (.iconst 3, 1) := by decide +kernel
theorem dL_law_553 : decode cL_law 553 = .ok (.iadd, 1) := by decide +kernel
theorem dL_law_554 : decode cL_law 554 = .ok (.iaload, 1) := by decide +kernel
theorem dL_law_555 : decode cL_law 555 = .ok (.invokevirtual 61, 3) := by decide +kernel
theorem dL_law_558 : decode cL_law 558 = .ok (.aload_n 2, 1) := by decide +kernel
theorem dL_law_559 : decode cL_law 559 = .ok (.aload_n 0, 1) := by decide +kernel
theorem dL_law_560 : decode cL_law 560 = .ok (.iload_n 3, 1) := by decide +kernel
theorem dL_law_561 : decode cL_law 561 = .ok (.iconst 1, 1) := by decide +kernel
theorem dL_law_562 : decode cL_law 562 = .ok (.iadd, 1) := by decide +kernel
theorem dL_law_563 : decode cL_law 563 = .ok (.iaload, 1) := by decide +kernel
theorem dL_law_564 : decode cL_law 564 = .ok (.aload_n 0, 1) := by decide +kernel
theorem dL_law_565 : decode cL_law 565 = .ok (.iload_n 3, 1) := by decide +kernel
theorem dL_law_566 : decode cL_law 566 = .ok (.iconst 2, 1) := by decide +kernel
theorem dL_law_567 : decode cL_law 567 = .ok (.iadd, 1) := by decide +kernel
theorem dL_law_568 : decode cL_law 568 = .ok (.iaload, 1) := by decide +kernel
theorem dL_law_569 : decode cL_law 569 = .ok (.aload_n 0, 1) := by decide +kernel
theorem dL_law_570 : decode cL_law 570 = .ok (.iload_n 3, 1) := by decide +kernel
theorem dL_law_571 : decode cL_law 571 = .ok (.iconst 3, 1) := by decide +kernel
theorem dL_law_572 : decode cL_law 572 = .ok (.iadd, 1) := by decide +kernel
theorem dL_law_573 : decode cL_law 573 = .ok (.iaload, 1) := by decide +kernel
theorem dL_law_574 : decode cL_law 574 = .ok (.invokevirtual 64, 3) := by decide +kernel
theorem dL_law_577 : decode cL_law 577 = .ok (.if_icmp .eq 555, 3) := by decide +kernel
theorem dL_law_580 : decode cL_law 580 = .ok (.iconst 0, 1) := by decide +kernel
theorem dL_law_581 : decode cL_law 581 = .ok (.ireturn, 1) := by decide +kernel
theorem dL_law_582 : decode cL_law 582 = .ok (.aload_n 1, 1) := by decide +kernel
theorem dL_law_583 : decode cL_law 583 = .ok (.aload_n 0, 1) := by decide +kernel
theorem dL_law_584 : decode cL_law 584 = .ok (.iload_n 3, 1) := by decide +kernel
theorem dL_law_585 : decode cL_law 585 = .ok (.iconst 1, 1) := by decide +kernel
theorem dL_law_586 : decode cL_law 586 = .ok (.iadd, 1) := by decide +kernel
theorem dL_law_587 : decode cL_law 587 = .ok (.iaload, 1) := by decide +kernel
theorem dL_law_588 : decode cL_law 588 = .ok (.aload_n 0, 1) := by decide +kernel
theorem dL_law_589 : decode cL_law 589 = .ok (.iload_n 3, 1) := by decide +kernel
theorem dL_law_590 : decode cL_law 590 = .ok (.iconst 2, 1) := by decide +kernel
theorem dL_law_591 : decode cL_law 591 = .ok (.iadd, 1) := by decide +kernel
theorem dL_law_592 : decode cL_law 592 = .ok (.iaload, 1) := by decide +kernel
theorem dL_law_593 : decode cL_law 593 = .ok (.aload_n 0, 1) := by decide +kernel
theorem dL_law_594 : decode cL_law 594 = .ok (.iload_n 3, 1) := by decide +kernel
theorem dL_law_595 : decode cL_law 595 = .ok (.iconst 3, 1) := by decide +kernel
theorem dL_law_596 : decode cL_law 596 = .ok (.iadd, 1) := by decide +kernel
theorem dL_law_597 : decode cL_law 597 = .ok (.iaload, 1) := by decide +kernel
theorem dL_law_598 : decode cL_law 598 = .ok (.aload_n 0, 1) := by decide +kernel
theorem dL_law_599 : decode cL_law 599 = .ok (.iload_n 3, 1) := by decide +kernel
theorem dL_law_600 : decode cL_law 600 = .ok (.iconst 4, 1) := by decide +kernel
theorem dL_law_601 : decode cL_law 601 = .ok (.iadd, 1) := by decide +kernel
theorem dL_law_602 : decode cL_law 602 = .ok (.iaload, 1) := by decide +kernel
theorem dL_law_603 : decode cL_law 603 = .ok (.invokevirtual 65, 3) := by decide +kernel
theorem dL_law_606 : decode cL_law 606 = .ok (.aload_n 2, 1) := by decide +kernel
theorem dL_law_607 : decode cL_law 607 = .ok (.aload_n 0, 1) := by decide +kernel
theorem dL_law_608 : decode cL_law 608 = .ok (.iload_n 3, 1) := by decide +kernel
theorem dL_law_609 : decode cL_law 609 = .ok (.iconst 1, 1) := by decide +kernel
theorem dL_law_610 : decode cL_law 610 = .ok (.iadd, 1) := by decide +kernel
theorem dL_law_611 : decode cL_law 611 = .ok (.iaload, 1) := by decide +kernel
theorem dL_law_612 : decode cL_law 612 = .ok (.aload_n 0, 1) := by decide +kernel
theorem dL_law_613 : decode cL_law 613 = .ok (.iload_n 3, 1) := by decide +kernel
theorem dL_law_614 : decode cL_law 614 = .ok (.iconst 2, 1) := by decide +kernel
theorem dL_law_615 : decode cL_law 615 = .ok (.iadd, 1) := by decide +kernel
theorem dL_law_616 : decode cL_law 616 = .ok (.iaload, 1) := by decide +kernel
theorem dL_law_617 : decode cL_law 617 = .ok (.aload_n 0, 1) := by decide +kernel
theorem dL_law_618 : decode cL_law 618 = .ok (.iload_n 3, 1) := by decide +kernel
theorem dL_law_619 : decode cL_law 619 = .ok (.iconst 3, 1) := by decide +kernel
theorem dL_law_620 : decode cL_law 620 = .ok (.iadd, 1) := by decide +kernel
theorem dL_law_621 : decode cL_law 621 = .ok (.iaload, 1) := by decide +kernel
theorem dL_law_622 : decode cL_law 622 = .ok (.aload_n 0, 1) := by decide +kernel
theorem dL_law_623 : decode cL_law 623 = .ok (.iload_n 3, 1) := by decide +kernel
theorem dL_law_624 : decode cL_law 624 = .ok (.iconst 4, 1) := by decide +kernel
theorem dL_law_625 : decode cL_law 625 = .ok (.iadd, 1) := by decide +kernel
theorem dL_law_626 : decode cL_law 626 = .ok (.iaload, 1) := by decide +kernel
theorem dL_law_627 : decode cL_law 627 = .ok (.invokevirtual 69, 3) := by decide +kernel
theorem dL_law_630 : decode cL_law 630 = .ok (.if_icmp .eq 502, 3) := by decide +kernel
theorem dL_law_633 : decode cL_law 633 = .ok (.iconst 0, 1) := by decide +kernel
theorem dL_law_634 : decode cL_law 634 = .ok (.ireturn, 1) := by decide +kernel
theorem dL_law_635 : decode cL_law 635 = .ok (.aload_n 1, 1) := by decide +kernel
theorem dL_law_636 : decode cL_law 636 = .ok (.aload_n 0, 1) := by decide +kernel
theorem dL_law_637 : decode cL_law 637 = .ok (.iload_n 3, 1) := by decide +kernel
theorem dL_law_638 : decode cL_law 638 = .ok (.iconst 1, 1) := by decide +kernel
theorem dL_law_639 : decode cL_law 639 = .ok (.iadd, 1) := by decide +kernel
theorem dL_law_640 : decode cL_law 640 = .ok (.iaload, 1) := by decide +kernel
theorem dL_law_641 : decode cL_law 641 = .ok (.aload_n 0, 1) := by decide +kernel
theorem dL_law_642 : decode cL_law 642 = .ok (.iload_n 3, 1) := by decide +kernel
theorem dL_law_643 : decode cL_law 643 = .ok (.iconst 2, 1) := by decide +kernel
theorem dL_law_644 : decode cL_law 644 = .ok (.iadd, 1) := by decide +kernel
theorem dL_law_645 : decode cL_law 645 = .ok (.iaload, 1) := by decide +kernel
theorem dL_law_646 : decode cL_law 646 = .ok (.invokevirtual 70, 3) := by decide +kernel
theorem dL_law_649 : decode cL_law 649 = .ok (.aload_n 2, 1) := by decide +kernel
theorem dL_law_650 : decode cL_law 650 = .ok (.aload_n 0, 1) := by decide +kernel
theorem dL_law_651 : decode cL_law 651 = .ok (.iload_n 3, 1) := by decide +kernel
theorem dL_law_652 : decode cL_law 652 = .ok (.iconst 1, 1) := by decide +kernel
theorem dL_law_653 : decode cL_law 653 = .ok (.iadd, 1) := by decide +kernel
theorem dL_law_654 : decode cL_law 654 = .ok (.iaload, 1) := by decide +kernel
theorem dL_law_655 : decode cL_law 655 = .ok (.aload_n 0, 1) := by decide +kernel
theorem dL_law_656 : decode cL_law 656 = .ok (.iload_n 3, 1) := by decide +kernel
theorem dL_law_657 : decode cL_law 657 = .ok (.iconst 2, 1) := by decide +kernel
theorem dL_law_658 : decode cL_law 658 = .ok (.iadd, 1) := by decide +kernel
theorem dL_law_659 : decode cL_law 659 = .ok (.iaload, 1) := by decide +kernel
theorem dL_law_660 : decode cL_law 660 = .ok (.invokevirtual 73, 3) := by decide +kernel
theorem dL_law_663 : decode cL_law 663 = .ok (.if_icmp .eq 469, 3) := by decide +kernel
theorem dL_law_666 : decode cL_law 666 = .ok (.iconst 0, 1) := by decide +kernel
theorem dL_law_667 : decode cL_law 667 = .ok (.ireturn, 1) := by decide +kernel
theorem dL_law_668 : decode cL_law 668 = .ok (.aload_n 1, 1) := by decide +kernel
theorem dL_law_669 : decode cL_law 669 = .ok (.aload_n 0, 1) := by decide +kernel
theorem dL_law_670 : decode cL_law 670 = .ok (.iload_n 3, 1) := by decide +kernel
theorem dL_law_671 : decode cL_law 671 = .ok (.iconst 1, 1) := by decide +kernel
theorem dL_law_672 : decode cL_law 672 = .ok (.iadd, 1) := by decide +kernel
theorem dL_law_673 : decode cL_law 673 = .ok (.iaload, 1) := by decide +kernel
theorem dL_law_674 : decode cL_law 674 = .ok (.aload_n 0, 1) := by decide +kernel
theorem dL_law_675 : decode cL_law 675 = .ok (.iload_n 3, 1) := by decide +kernel
theorem dL_law_676 : decode cL_law 676 = .ok (.iconst 2, 1) := by decide +kernel
theorem dL_law_677 : decode cL_law 677 = .ok (.iadd, 1) := by decide +kernel
theorem dL_law_678 : decode cL_law 678 = .ok (.iaload, 1) := by decide +kernel
theorem dL_law_679 : decode cL_law 679 = .ok (.invokevirtual 74, 3) := by decide +kernel
theorem dL_law_682 : decode cL_law 682 = .ok (.aload_n 2, 1) := by decide +kernel
theorem dL_law_683 : decode cL_law 683 = .ok (.aload_n 0, 1) := by decide +kernel
theorem dL_law_684 : decode cL_law 684 = .ok (.iload_n 3, 1) := by decide +kernel
theorem dL_law_685 : decode cL_law 685 = .ok (.iconst 1, 1) := by decide +kernel
theorem dL_law_686 : decode cL_law 686 = .ok (.iadd, 1) := by decide +kernel
theorem dL_law_687 : decode cL_law 687 = .ok (.iaload, 1) := by decide +kernel
theorem dL_law_688 : decode cL_law 688 = .ok (.aload_n 0, 1) := by decide +kernel
theorem dL_law_689 : decode cL_law 689 = .ok (.iload_n 3, 1) := by decide +kernel
theorem dL_law_690 : decode cL_law 690 = .ok (.iconst 2, 1) := by decide +kernel
theorem dL_law_691 : decode cL_law 691 = .ok (.iadd, 1) := by decide +kernel
theorem dL_law_692 : decode cL_law 692 = .ok (.iaload, 1) := by decide +kernel
theorem dL_law_693 : decode cL_law 693 = .ok (.invokevirtual 77, 3) := by decide +kernel
theorem dL_law_696 : decode cL_law 696 = .ok (.if_icmp .eq 436, 3) := by decide +kernel
theorem dL_law_699 : decode cL_law 699 = .ok (.iconst 0, 1) := by decide +kernel
theorem dL_law_700 : decode cL_law 700 = .ok (.ireturn, 1) := by decide +kernel
theorem dL_law_701 : decode cL_law 701 = .ok (.aload_n 1, 1) := by decide +kernel
theorem dL_law_702 : decode cL_law 702 = .ok (.aload_n 0, 1) := by decide +kernel
theorem dL_law_703 : decode cL_law 703 = .ok (.iload_n 3, 1) := by decide +kernel
theorem dL_law_704 : decode cL_law 704 = .ok (.iconst 1, 1) := by decide +kernel
theorem dL_law_705 : decode cL_law 705 = .ok (.iadd, 1) := by decide +kernel
theorem dL_law_706 : decode cL_law 706 = .ok (.iaload, 1) := by decide +kernel
theorem dL_law_707 : decode cL_law 707 = .ok (.aload_n 0, 1) := by decide +kernel
theorem dL_law_708 : decode cL_law 708 = .ok (.iload_n 3, 1) := by decide +kernel
theorem dL_law_709 : decode cL_law 709 = .ok (.iconst 2, 1) := by decide +kernel
theorem dL_law_710 : decode cL_law 710 = .ok (.iadd, 1) := by decide +kernel
theorem dL_law_711 : decode cL_law 711 = .ok (.iaload, 1) := by decide +kernel
theorem dL_law_712 : decode cL_law 712 = .ok (.invokevirtual 78, 3) := by decide +kernel
theorem dL_law_715 : decode cL_law 715 = .ok (.aload_n 2, 1) := by decide +kernel
theorem dL_law_716 : decode cL_law 716 = .ok (.aload_n 0, 1) := by decide +kernel
theorem dL_law_717 : decode cL_law 717 = .ok (.iload_n 3, 1) := by decide +kernel
theorem dL_law_718 : decode cL_law 718 = .ok (.iconst 1, 1) := by decide +kernel
theorem dL_law_719 : decode cL_law 719 = .ok (.iadd, 1) := by decide +kernel
theorem dL_law_720 : decode cL_law 720 = .ok (.iaload, 1) := by decide +kernel
theorem dL_law_721 : decode cL_law 721 = .ok (.aload_n 0, 1) := by decide +kernel
theorem dL_law_722 : decode cL_law 722 = .ok (.iload_n 3, 1) := by decide +kernel
theorem dL_law_723 : decode cL_law 723 = .ok (.iconst 2, 1) := by decide +kernel
theorem dL_law_724 : decode cL_law 724 = .ok (.iadd, 1) := by decide +kernel
theorem dL_law_725 : decode cL_law 725 = .ok (.iaload, 1) := by decide +kernel
theorem dL_law_726 : decode cL_law 726 = .ok (.invokevirtual 81, 3) := by decide +kernel
theorem dL_law_729 : decode cL_law 729 = .ok (.if_icmp .eq 403, 3) := by decide +kernel
theorem dL_law_732 : decode cL_law 732 = .ok (.iconst 0, 1) := by decide +kernel
theorem dL_law_733 : decode cL_law 733 = .ok (.ireturn, 1) := by decide +kernel
theorem dL_law_734 : decode cL_law 734 = .ok (.aload_n 1, 1) := by decide +kernel
theorem dL_law_735 : decode cL_law 735 = .ok (.aload_n 0, 1) := by decide +kernel
theorem dL_law_736 : decode cL_law 736 = .ok (.iload_n 3, 1) := by decide +kernel
theorem dL_law_737 : decode cL_law 737 = .ok (.iconst 1, 1) := by decide +kernel
theorem dL_law_738 : decode cL_law 738 = .ok (.iadd, 1) := by decide +kernel
theorem dL_law_739 : decode cL_law 739 = .ok (.iaload, 1) := by decide +kernel
theorem dL_law_740 : decode cL_law 740 = .ok (.aload_n 0, 1) := by decide +kernel
theorem dL_law_741 : decode cL_law 741 = .ok (.iload_n 3, 1) := by decide +kernel
theorem dL_law_742 : decode cL_law 742 = .ok (.iconst 2, 1) := by decide +kernel
theorem dL_law_743 : decode cL_law 743 = .ok (.iadd, 1) := by decide +kernel
theorem dL_law_744 : decode cL_law 744 = .ok (.iaload, 1) := by decide +kernel
theorem dL_law_745 : decode cL_law 745 = .ok (.aload_n 0, 1) := by decide +kernel
theorem dL_law_746 : decode cL_law 746 = .ok (.iload_n 3, 1) := by decide +kernel
theorem dL_law_747 : decode cL_law 747 = .ok (.iconst 3, 1) := by decide +kernel
theorem dL_law_748 : decode cL_law 748 = .ok (.iadd, 1) := by decide +kernel
theorem dL_law_749 : decode cL_law 749 = .ok (.iaload, 1) := by decide +kernel
theorem dL_law_750 : decode cL_law 750 = .ok (.invokevirtual 82, 3) := by decide +kernel
theorem dL_law_753 : decode cL_law 753 = .ok (.aload_n 2, 1) := by decide +kernel
theorem dL_law_754 : decode cL_law 754 = .ok (.aload_n 0, 1) := by decide +kernel
theorem dL_law_755 : decode cL_law 755 = .ok (.iload_n 3, 1) := by decide +kernel
theorem dL_law_756 : decode cL_law 756 = .ok (.iconst 1, 1) := by decide +kernel
theorem dL_law_757 : decode cL_law 757 = .ok (.iadd, 1) := by decide +kernel
theorem dL_law_758 : decode cL_law 758 = .ok (.iaload, 1) := by decide +kernel
theorem dL_law_759 : decode cL_law 759 = .ok (.aload_n 0, 1) := by decide +kernel
theorem dL_law_760 : decode cL_law 760 = .ok (.iload_n 3, 1) := by decide +kernel
theorem dL_law_761 : decode cL_law 761 = .ok (.iconst 2, 1) := by decide +kernel
theorem dL_law_762 : decode cL_law 762 = .ok (.iadd, 1) := by decide +kernel
theorem dL_law_763 : decode cL_law 763 = .ok (.iaload, 1) := by decide +kernel
theorem dL_law_764 : decode cL_law 764 = .ok (.aload_n 0, 1) := by decide +kernel
theorem dL_law_765 : decode cL_law 765 = .ok (.iload_n 3, 1) := by decide +kernel
theorem dL_law_766 : decode cL_law 766 = .ok (.iconst 3, 1) := by decide +kernel
theorem dL_law_767 : decode cL_law 767 = .ok (.iadd, 1) := by decide +kernel
theorem dL_law_768 : decode cL_law 768 = .ok (.iaload, 1) := by decide +kernel
theorem dL_law_769 : decode cL_law 769 = .ok (.invokevirtual 85, 3) := by decide +kernel
theorem dL_law_772 : decode cL_law 772 = .ok (.if_icmp .eq 360, 3) := by decide +kernel
theorem dL_law_775 : decode cL_law 775 = .ok (.iconst 0, 1) := by decide +kernel
theorem dL_law_776 : decode cL_law 776 = .ok (.ireturn, 1) := by decide +kernel
theorem dL_law_777 : decode cL_law 777 = .ok (.aload_n 1, 1) := by decide +kernel
theorem dL_law_778 : decode cL_law 778 = .ok (.aload_n 0, 1) := by decide +kernel
theorem dL_law_779 : decode cL_law 779 = .ok (.iload_n 3, 1) := by decide +kernel
theorem dL_law_780 : decode cL_law 780 = .ok (.iconst 1, 1) := by decide +kernel
theorem dL_law_781 : decode cL_law 781 = .ok (.iadd, 1) := by decide +kernel
theorem dL_law_782 : decode cL_law 782 = .ok (.iaload, 1) := by decide +kernel
theorem dL_law_783 : decode cL_law 783 = .ok (.aload_n 0, 1) := by decide +kernel
theorem dL_law_784 : decode cL_law 784 = .ok (.iload_n 3, 1) := by decide +kernel
theorem dL_law_785 : decode cL_law 785 = .ok (.iconst 2, 1) := by decide +kernel
theorem dL_law_786 : decode cL_law 786 = .ok (.iadd, 1) := by decide +kernel
theorem dL_law_787 : decode cL_law 787 = .ok (.iaload, 1) := by decide +kernel
theorem dL_law_788 : decode cL_law 788 = .ok (.invokevirtual 86, 3) := by decide +kernel
theorem dL_law_791 : decode cL_law 791 = .ok (.aload_n 2, 1) := by decide +kernel
theorem dL_law_792 : decode cL_law 792 = .ok (.aload_n 0, 1) := by decide +kernel
theorem dL_law_793 : decode cL_law 793 = .ok (.iload_n 3, 1) := by decide +kernel
theorem dL_law_794 : decode cL_law 794 = .ok (.iconst 1, 1) := by decide +kernel
theorem dL_law_795 : decode cL_law 795 = .ok (.iadd, 1) := by decide +kernel
theorem dL_law_796 : decode cL_law 796 = .ok (.iaload, 1) := by decide +kernel
theorem dL_law_797 : decode cL_law 797 = .ok (.aload_n 0, 1) := by decide +kernel
theorem dL_law_798 : decode cL_law 798 = .ok (.iload_n 3, 1) := by decide +kernel
theorem dL_law_799 : decode cL_law 799 = .ok (.iconst 2, 1) := by decide +kernel
theorem dL_law_800 : decode cL_law 800 = .ok (.iadd, 1) := by decide +kernel
theorem dL_law_801 : decode cL_law 801 = .ok (.iaload, 1) := by decide +kernel
theorem dL_law_802 : decode cL_law 802 = .ok (.invokevirtual 89, 3) := by decide +kernel
theorem dL_law_805 : decode cL_law 805 = .ok (.if_icmp .eq 327, 3) := by decide +kernel
theorem dL_law_808 : decode cL_law 808 = .ok (.iconst 0, 1) := by decide +kernel
theorem dL_law_809 : decode cL_law 809 = .ok (.ireturn, 1) := by decide +kernel
theorem dL_law_810 : decode cL_law 810 = .ok (.aload_n 1, 1) := by decide +kernel
theorem dL_law_811 : decode cL_law 811 = .ok (.aload_n 0, 1) := by decide +kernel
theorem dL_law_812 : decode cL_law 812 = .ok (.iload_n 3, 1) := by decide +kernel
theorem dL_law_813 : decode cL_law 813 = .ok (.iconst 1, 1) := by decide +kernel
theorem dL_law_814 : decode cL_law 814 = .ok (.iadd, 1) := by decide +kernel
theorem dL_law_815 : decode cL_law 815 = .ok (.iaload, 1) := by decide +kernel
theorem dL_law_816 : decode cL_law 816 = .ok (.invokevirtual 90, 3) := by decide +kernel
theorem dL_law_819 : decode cL_law 819 = .ok (.aload_n 2, 1) := by decide +kernel
theorem dL_law_820 : decode cL_law 820 = .ok (.aload_n 0, 1) := by decide +kernel
theorem dL_law_821 : decode cL_law 821 = .ok (.iload_n 3, 1) := by decide +kernel
theorem dL_law_822 : decode cL_law 822 = .ok (.iconst 1, 1) := by decide +kernel
theorem dL_law_823 : decode cL_law 823 = .ok (.iadd, 1) := by decide +kernel
theorem dL_law_824 : decode cL_law 824 = .ok (.iaload, 1) := by decide +kernel
theorem dL_law_825 : decode cL_law 825 = .ok (.invokevirtual 93, 3) := by decide +kernel
theorem dL_law_828 : decode cL_law 828 = .ok (.if_icmp .eq 304, 3) := by decide +kernel
theorem dL_law_831 : decode cL_law 831 = .ok (.iconst 0, 1) := by decide +kernel
theorem dL_law_832 : decode cL_law 832 = .ok (.ireturn, 1) := by decide +kernel
theorem dL_law_833 : decode cL_law 833 = .ok (.aload_n 1, 1) := by decide +kernel
theorem dL_law_834 : decode cL_law 834 = .ok (.aload_n 0, 1) := by decide +kernel
theorem dL_law_835 : decode cL_law 835 = .ok (.iload_n 3, 1) := by decide +kernel
theorem dL_law_836 : decode cL_law 836 = .ok (.iconst 1, 1) := by decide +kernel
theorem dL_law_837 : decode cL_law 837 = .ok (.iadd, 1) := by decide +kernel
theorem dL_law_838 : decode cL_law 838 = .ok (.iaload, 1) := by decide +kernel
theorem dL_law_839 : decode cL_law 839 = .ok (.invokevirtual 94, 3) := by decide +kernel
theorem dL_law_842 : decode cL_law 842 = .ok (.aload_n 2, 1) := by decide +kernel
theorem dL_law_843 : decode cL_law 843 = .ok (.aload_n 0, 1) := by decide +kernel
theorem dL_law_844 : decode cL_law 844 = .ok (.iload_n 3, 1) := by decide +kernel
theorem dL_law_845 : decode cL_law 845 = .ok (.iconst 1, 1) := by decide +kernel
theorem dL_law_846 : decode cL_law 846 = .ok (.iadd, 1) := by decide +kernel
theorem dL_law_847 : decode cL_law 847 = .ok (.iaload, 1) := by decide +kernel
theorem dL_law_848 : decode cL_law 848 = .ok (.invokevirtual 97, 3) := by decide +kernel
theorem dL_law_851 : decode cL_law 851 = .ok (.if_icmp .eq 281, 3) := by decide +kernel
theorem dL_law_854 : decode cL_law 854 = .ok (.iconst 0, 1) := by decide +kernel
theorem dL_law_855 : decode cL_law 855 = .ok (.ireturn, 1) := by decide +kernel
theorem dL_law_856 : decode cL_law 856 = .ok (.aload_n 1, 1) := by decide +kernel
theorem dL_law_857 : decode cL_law 857 = .ok (.invokevirtual 98, 3) := by decide +kernel
theorem dL_law_860 : decode cL_law 860 = .ok (.aload_n 2, 1) := by decide +kernel
theorem dL_law_861 : decode cL_law 861 = .ok (.invokevirtual 101, 3) := by decide +kernel
theorem dL_law_864 : decode cL_law 864 = .ok (.if_icmp .eq 268, 3) := by decide +kernel
theorem dL_law_867 : decode cL_law 867 = .ok (.iconst 0, 1) := by decide +kernel
theorem dL_law_868 : decode cL_law 868 = .ok (.ireturn, 1) := by decide +kernel
theorem dL_law_869 : decode cL_law 869 = .ok (.aload_n 1, 1) := by decide +kernel
theorem dL_law_870 : decode cL_law 870 = .ok (.aload_n 0, 1) := by decide +kernel
theorem dL_law_871 : decode cL_law 871 = .ok (.iload_n 3, 1) := by decide +kernel
theorem dL_law_872 : decode cL_law 872 = .ok (.iconst 1, 1) := by decide +kernel
theorem dL_law_873 : decode cL_law 873 = .ok (.iadd, 1) := by decide +kernel
theorem dL_law_874 : decode cL_law 874 = .ok (.iaload, 1) := by decide +kernel
theorem dL_law_875 : decode cL_law 875 = .ok (.aload_n 0, 1) := by decide +kernel
theorem dL_law_876 : decode cL_law 876 = .ok (.iload_n 3, 1) := by decide +kernel
theorem dL_law_877 : decode cL_law 877 = .ok (.iconst 2, 1) := by decide +kernel
theorem dL_law_878 : decode cL_law 878 = .ok (.iadd, 1) := by decide +kernel
theorem dL_law_879 : decode cL_law 879 = .ok (.iaload, 1) := by decide +kernel
theorem dL_law_880 : decode cL_law 880 = .ok (.invokevirtual 102, 3) := by decide +kernel
theorem dL_law_883 : decode cL_law 883 = .ok (.aload_n 2, 1) := by decide +kernel
theorem dL_law_884 : decode cL_law 884 = .ok (.aload_n 0, 1) := by decide +kernel
theorem dL_law_885 : decode cL_law 885 = .ok (.iload_n 3, 1) := by decide +kernel
theorem dL_law_886 : decode cL_law 886 = .ok (.iconst 1, 1) := by decide +kernel
theorem dL_law_887 : decode cL_law 887 = .ok (.iadd, 1) := by decide +kernel
theorem dL_law_888 : decode cL_law 888 = .ok (.iaload, 1) := by decide +kernel
theorem dL_law_889 : decode cL_law 889 = .ok (.aload_n 0, 1) := by decide +kernel
theorem dL_law_890 : decode cL_law 890 = .ok (.iload_n 3, 1) := by decide +kernel
theorem dL_law_891 : decode cL_law 891 = .ok (.iconst 2, 1) := by decide +kernel
theorem dL_law_892 : decode cL_law 892 = .ok (.iadd, 1) := by decide +kernel
theorem dL_law_893 : decode cL_law 893 = .ok (.iaload, 1) := by decide +kernel
theorem dL_law_894 : decode cL_law 894 = .ok (.invokevirtual 105, 3) := by decide +kernel
theorem dL_law_897 : decode cL_law 897 = .ok (.if_icmp .eq 235, 3) := by decide +kernel
theorem dL_law_900 : decode cL_law 900 = .ok (.iconst 0, 1) := by decide +kernel
theorem dL_law_901 : decode cL_law 901 = .ok (.ireturn, 1) := by decide +kernel
theorem dL_law_902 : decode cL_law 902 = .ok (.aload_n 1, 1) := by decide +kernel
theorem dL_law_903 : decode cL_law 903 = .ok (.aload_n 0, 1) := by decide +kernel
theorem dL_law_904 : decode cL_law 904 = .ok (.iload_n 3, 1) := by decide +kernel
theorem dL_law_905 : decode cL_law 905 = .ok (.iconst 1, 1) := by decide +kernel
theorem dL_law_906 : decode cL_law 906 = .ok (.iadd, 1) := by decide +kernel
theorem dL_law_907 : decode cL_law 907 = .ok (.iaload, 1) := by decide +kernel
theorem dL_law_908 : decode cL_law 908 = .ok (.invokevirtual 106, 3) := by decide +kernel
theorem dL_law_911 : decode cL_law 911 = .ok (.aload_n 2, 1) := by decide +kernel
theorem dL_law_912 : decode cL_law 912 = .ok (.aload_n 0, 1) := by decide +kernel
theorem dL_law_913 : decode cL_law 913 = .ok (.iload_n 3, 1) := by decide +kernel
theorem dL_law_914 : decode cL_law 914 = .ok (.iconst 1, 1) := by decide +kernel
theorem dL_law_915 : decode cL_law 915 = .ok (.iadd, 1) := by decide +kernel
theorem dL_law_916 : decode cL_law 916 = .ok (.iaload, 1) := by decide +kernel
theorem dL_law_917 : decode cL_law 917 = .ok (.invokevirtual 109, 3) := by decide +kernel
theorem dL_law_920 : decode cL_law 920 = .ok (.if_icmp .eq 212, 3) := by decide +kernel
theorem dL_law_923 : decode cL_law 923 = .ok (.iconst 0, 1) := by decide +kernel
theorem dL_law_924 : decode cL_law 924 = .ok (.ireturn, 1) := by decide +kernel
theorem dL_law_925 : decode cL_law 925 = .ok (.aload_n 1, 1) := by decide +kernel
theorem dL_law_926 : decode cL_law 926 = .ok (.aload_n 0, 1) := by decide +kernel
theorem dL_law_927 : decode cL_law 927 = .ok (.iload_n 3, 1) := by decide +kernel
theorem dL_law_928 : decode cL_law 928 = .ok (.iconst 1, 1) := by decide +kernel
theorem dL_law_929 : decode cL_law 929 = .ok (.iadd, 1) := by decide +kernel
theorem dL_law_930 : decode cL_law 930 = .ok (.iaload, 1) := by decide +kernel
theorem dL_law_931 : decode cL_law 931 = .ok (.invokevirtual 110, 3) := by decide +kernel
theorem dL_law_934 : decode cL_law 934 = .ok (.aload_n 2, 1) := by decide +kernel
theorem dL_law_935 : decode cL_law 935 = .ok (.aload_n 0, 1) := by decide +kernel
theorem dL_law_936 : decode cL_law 936 = .ok (.iload_n 3, 1) := by decide +kernel
theorem dL_law_937 : decode cL_law 937 = .ok (.iconst 1, 1) := by decide +kernel
theorem dL_law_938 : decode cL_law 938 = .ok (.iadd, 1) := by decide +kernel
theorem dL_law_939 : decode cL_law 939 = .ok (.iaload, 1) := by decide +kernel
theorem dL_law_940 : decode cL_law 940 = .ok (.invokevirtual 113, 3) := by decide +kernel
theorem dL_law_943 : decode cL_law 943 = .ok (.if_icmp .eq 189, 3) := by decide +kernel
theorem dL_law_946 : decode cL_law 946 = .ok (.iconst 0, 1) := by decide +kernel
theorem dL_law_947 : decode cL_law 947 = .ok (.ireturn, 1) := by decide +kernel
theorem dL_law_948 : decode cL_law 948 = .ok (.aload_n 1, 1) := by decide +kernel
theorem dL_law_949 : decode cL_law 949 = .ok (.invokevirtual 114, 3) := by decide +kernel
theorem dL_law_952 : decode cL_law 952 = .ok (.aload_n 2, 1) := by decide +kernel
theorem dL_law_953 : decode cL_law 953 = .ok (.invokevirtual 117, 3) := by decide +kernel
theorem dL_law_956 : decode cL_law 956 = .ok (.if_icmp .eq 176, 3) := by decide +kernel
theorem dL_law_959 : decode cL_law 959 = .ok (.iconst 0, 1) := by decide +kernel
theorem dL_law_960 : decode cL_law 960 = .ok (.ireturn, 1) := by decide +kernel
theorem dL_law_961 : decode cL_law 961 = .ok (.aload_n 1, 1) := by decide +kernel
theorem dL_law_962 : decode cL_law 962 = .ok (.aload_n 0, 1) := by decide +kernel
theorem dL_law_963 : decode cL_law 963 = .ok (.iload_n 3, 1) := by decide +kernel
theorem dL_law_964 : decode cL_law 964 = .ok (.iconst 1, 1) := by decide +kernel
theorem dL_law_965 : decode cL_law 965 = .ok (.iadd, 1) := by decide +kernel
theorem dL_law_966 : decode cL_law 966 = .ok (.iaload, 1) := by decide +kernel
theorem dL_law_967 : decode cL_law 967 = .ok (.invokevirtual 118, 3) := by decide +kernel
theorem dL_law_970 : decode cL_law 970 = .ok (.aload_n 2, 1) := by decide +kernel
theorem dL_law_971 : decode cL_law 971 = .ok (.aload_n 0, 1) := by decide +kernel
theorem dL_law_972 : decode cL_law 972 = .ok (.iload_n 3, 1) := by decide +kernel
theorem dL_law_973 : decode cL_law 973 = .ok (.iconst 1, 1) := by decide +kernel
theorem dL_law_974 : decode cL_law 974 = .ok (.iadd, 1) := by decide +kernel
theorem dL_law_975 : decode cL_law 975 = .ok (.iaload, 1) := by decide +kernel
theorem dL_law_976 : decode cL_law 976 = .ok (.invokevirtual 121, 3) := by decide +kernel
theorem dL_law_979 : decode cL_law 979 = .ok (.if_icmp .eq 153, 3) := by decide +kernel
theorem dL_law_982 : decode cL_law 982 = .ok (.iconst 0, 1) := by decide +kernel
theorem dL_law_983 : decode cL_law 983 = .ok (.ireturn, 1) := by decide +kernel
theorem dL_law_984 : decode cL_law 984 = .ok (.aload_n 1, 1) := by decide +kernel
theorem dL_law_985 : decode cL_law 985 = .ok (.aload_n 0, 1) := by decide +kernel
theorem dL_law_986 : decode cL_law 986 = .ok (.iload_n 3, 1) := by decide +kernel
theorem dL_law_987 : decode cL_law 987 = .ok (.iconst 1, 1) := by decide +kernel
theorem dL_law_988 : decode cL_law 988 = .ok (.iadd, 1) := by decide +kernel
theorem dL_law_989 : decode cL_law 989 = .ok (.iaload, 1) := by decide +kernel
theorem dL_law_990 : decode cL_law 990 = .ok (.invokevirtual 122, 3) := by decide +kernel
theorem dL_law_993 : decode cL_law 993 = .ok (.aload_n 2, 1) := by decide +kernel
theorem dL_law_994 : decode cL_law 994 = .ok (.aload_n 0, 1) := by decide +kernel
theorem dL_law_995 : decode cL_law 995 = .ok (.iload_n 3, 1) := by decide +kernel
theorem dL_law_996 : decode cL_law 996 = .ok (.iconst 1, 1) := by decide +kernel
theorem dL_law_997 : decode cL_law 997 = .ok (.iadd, 1) := by decide +kernel
theorem dL_law_998 : decode cL_law 998 = .ok (.iaload, 1) := by decide +kernel
theorem dL_law_999 : decode cL_law 999 = .ok (.invokevirtual 125, 3) := by decide +kernel
theorem dL_law_1002 : decode cL_law 1002 = .ok (.if_icmp .eq 130, 3) := by decide +kernel
theorem dL_law_1005 : decode cL_law 1005 = .ok (.iconst 0, 1) := by decide +kernel
theorem dL_law_1006 : decode cL_law 1006 = .ok (.ireturn, 1) := by decide +kernel
theorem dL_law_1007 : decode cL_law 1007 = .ok (.aload_n 1, 1) := by decide +kernel
theorem dL_law_1008 : decode cL_law 1008 = .ok (.aload_n 0, 1) := by decide +kernel
theorem dL_law_1009 : decode cL_law 1009 = .ok (.iload_n 3, 1) := by decide +kernel
theorem dL_law_1010 : decode cL_law 1010 = .ok (.iconst 1, 1) := by decide +kernel
theorem dL_law_1011 : decode cL_law 1011 = .ok (.iadd, 1) := by decide +kernel
theorem dL_law_1012 : decode cL_law 1012 = .ok (.iaload, 1) := by decide +kernel
theorem dL_law_1013 : decode cL_law 1013 = .ok (.aload_n 0, 1) := by decide +kernel
theorem dL_law_1014 : decode cL_law 1014 = .ok (.iload_n 3, 1) := by decide +kernel
theorem dL_law_1015 : decode cL_law 1015 = .ok (.iconst 2, 1) := by decide +kernel
theorem dL_law_1016 : decode cL_law 1016 = .ok (.iadd, 1) := by decide +kernel
theorem dL_law_1017 : decode cL_law 1017 = .ok (.iaload, 1) := by decide +kernel
theorem dL_law_1018 : decode cL_law 1018 = .ok (.invokevirtual 126, 3) := by decide +kernel
theorem dL_law_1021 : decode cL_law 1021 = .ok (.aload_n 2, 1) := by decide +kernel
theorem dL_law_1022 : decode cL_law 1022 = .ok (.aload_n 0, 1) := by decide +kernel
theorem dL_law_1023 : decode cL_law 1023 = .ok (.iload_n 3, 1) := by decide +kernel
theorem dL_law_1024 : decode cL_law 1024 = .ok (.iconst 1, 1) := by decide +kernel
theorem dL_law_1025 : decode cL_law 1025 = .ok (.iadd, 1) := by decide +kernel
theorem dL_law_1026 : decode cL_law 1026 = .ok (.iaload, 1) := by decide +kernel
theorem dL_law_1027 : decode cL_law 1027 = .ok (.aload_n 0, 1) := by decide +kernel
theorem dL_law_1028 : decode cL_law 1028 = .ok (.iload_n 3, 1) := by decide +kernel
theorem dL_law_1029 : decode cL_law 1029 = .ok (.iconst 2, 1) := by decide +kernel
theorem dL_law_1030 : decode cL_law 1030 = .ok (.iadd, 1) := by decide +kernel
theorem dL_law_1031 : decode cL_law 1031 = .ok (.iaload, 1) := by decide +kernel
theorem dL_law_1032 : decode cL_law 1032 = .ok (.invokevirtual 129, 3) := by decide +kernel
theorem dL_law_1035 : decode cL_law 1035 = .ok (.if_icmp .eq 97, 3) := by decide +kernel
theorem dL_law_1038 : decode cL_law 1038 = .ok (.iconst 0, 1) := by decide +kernel
theorem dL_law_1039 : decode cL_law 1039 = .ok (.ireturn, 1) := by decide +kernel
theorem dL_law_1040 : decode cL_law 1040 = .ok (.aload_n 1, 1) := by decide +kernel
theorem dL_law_1041 : decode cL_law 1041 = .ok (.aload_n 0, 1) := by decide +kernel
theorem dL_law_1042 : decode cL_law 1042 = .ok (.iload_n 3, 1) := by decide +kernel
theorem dL_law_1043 : decode cL_law 1043 = .ok (.iconst 1, 1) := by decide +kernel
theorem dL_law_1044 : decode cL_law 1044 = .ok (.iadd, 1) := by decide +kernel
theorem dL_law_1045 : decode cL_law 1045 = .ok (.iaload, 1) := by decide +kernel
theorem dL_law_1046 : decode cL_law 1046 = .ok (.invokevirtual 130, 3) := by decide +kernel
theorem dL_law_1049 : decode cL_law 1049 = .ok (.aload_n 2, 1) := by decide +kernel
theorem dL_law_1050 : decode cL_law 1050 = .ok (.aload_n 0, 1) := by decide +kernel
theorem dL_law_1051 : decode cL_law 1051 = .ok (.iload_n 3, 1) := by decide +kernel
theorem dL_law_1052 : decode cL_law 1052 = .ok (.iconst 1, 1) := by decide +kernel
theorem dL_law_1053 : decode cL_law 1053 = .ok (.iadd, 1) := by decide +kernel
theorem dL_law_1054 : decode cL_law 1054 = .ok (.iaload, 1) := by decide +kernel
theorem dL_law_1055 : decode cL_law 1055 = .ok (.invokevirtual 133, 3) := by decide +kernel
theorem dL_law_1058 : decode cL_law 1058 = .ok (.if_icmp .eq 74, 3) := by decide +kernel
theorem dL_law_1061 : decode cL_law 1061 = .ok (.iconst 0, 1) := by decide +kernel
theorem dL_law_1062 : decode cL_law 1062 = .ok (.ireturn, 1) := by decide +kernel
theorem dL_law_1063 : decode cL_law 1063 = .ok (.aload_n 1, 1) := by decide +kernel
theorem dL_law_1064 : decode cL_law 1064 = .ok (.aload_n 0, 1) := by decide +kernel
theorem dL_law_1065 : decode cL_law 1065 = .ok (.iload_n 3, 1) := by decide +kernel
theorem dL_law_1066 : decode cL_law 1066 = .ok (.iconst 1, 1) := by decide +kernel
theorem dL_law_1067 : decode cL_law 1067 = .ok (.iadd, 1) := by decide +kernel
theorem dL_law_1068 : decode cL_law 1068 = .ok (.iaload, 1) := by decide +kernel
theorem dL_law_1069 : decode cL_law 1069 = .ok (.invokevirtual 134, 3) := by decide +kernel
theorem dL_law_1072 : decode cL_law 1072 = .ok (.aload_n 2, 1) := by decide +kernel
theorem dL_law_1073 : decode cL_law 1073 = .ok (.aload_n 0, 1) := by decide +kernel
theorem dL_law_1074 : decode cL_law 1074 = .ok (.iload_n 3, 1) := by decide +kernel
theorem dL_law_1075 : decode cL_law 1075 = .ok (.iconst 1, 1) := by decide +kernel
theorem dL_law_1076 : decode cL_law 1076 = .ok (.iadd, 1) := by decide +kernel
theorem dL_law_1077 : decode cL_law 1077 = .ok (.iaload, 1) := by decide +kernel
theorem dL_law_1078 : decode cL_law 1078 = .ok (.invokevirtual 137, 3) := by decide +kernel
theorem dL_law_1081 : decode cL_law 1081 = .ok (.if_icmp .eq 51, 3) := by decide +kernel
theorem dL_law_1084 : decode cL_law 1084 = .ok (.iconst 0, 1) := by decide +kernel
theorem dL_law_1085 : decode cL_law 1085 = .ok (.ireturn, 1) := by decide +kernel
theorem dL_law_1086 : decode cL_law 1086 = .ok (.aload_n 1, 1) := by decide +kernel
theorem dL_law_1087 : decode cL_law 1087 = .ok (.aload_n 0, 1) := by decide +kernel
theorem dL_law_1088 : decode cL_law 1088 = .ok (.iload_n 3, 1) := by decide +kernel
theorem dL_law_1089 : decode cL_law 1089 = .ok (.iconst 1, 1) := by decide +kernel
theorem dL_law_1090 : decode cL_law 1090 = .ok (.iadd, 1) := by decide +kernel
theorem dL_law_1091 : decode cL_law 1091 = .ok (.iaload, 1) := by decide +kernel
theorem dL_law_1092 : decode cL_law 1092 = .ok (.invokevirtual 138, 3) := by decide +kernel
theorem dL_law_1095 : decode cL_law 1095 = .ok (.aload_n 2, 1) := by decide +kernel
theorem dL_law_1096 : decode cL_law 1096 = .ok (.aload_n 0, 1) := by decide +kernel
theorem dL_law_1097 : decode cL_law 1097 = .ok (.iload_n 3, 1) := by decide +kernel
theorem dL_law_1098 : decode cL_law 1098 = .ok (.iconst 1, 1) := by decide +kernel
theorem dL_law_1099 : decode cL_law 1099 = .ok (.iadd, 1) := by decide +kernel
theorem dL_law_1100 : decode cL_law 1100 = .ok (.iaload, 1) := by decide +kernel
theorem dL_law_1101 : decode cL_law 1101 = .ok (.invokevirtual 141, 3) := by decide +kernel
theorem dL_law_1104 : decode cL_law 1104 = .ok (.if_icmp .eq 28, 3) := by decide +kernel
theorem dL_law_1107 : decode cL_law 1107 = .ok (.iconst 0, 1) := by decide +kernel
theorem dL_law_1108 : decode cL_law 1108 = .ok (.ireturn, 1) := by decide +kernel
theorem dL_law_1109 : decode cL_law 1109 = .ok (.aload_n 1, 1) := by decide +kernel
theorem dL_law_1110 : decode cL_law 1110 = .ok (.aload_n 0, 1) := by decide +kernel
theorem dL_law_1111 : decode cL_law 1111 = .ok (.iload_n 3, 1) := by decide +kernel
theorem dL_law_1112 : decode cL_law 1112 = .ok (.iconst 1, 1) := by decide +kernel
theorem dL_law_1113 : decode cL_law 1113 = .ok (.iadd, 1) := by decide +kernel
theorem dL_law_1114 : decode cL_law 1114 = .ok (.iaload, 1) := by decide +kernel
theorem dL_law_1115 : decode cL_law 1115 = .ok (.invokevirtual 142, 3) := by decide +kernel
theorem dL_law_1118 : decode cL_law 1118 = .ok (.aload_n 2, 1) := by decide +kernel
theorem dL_law_1119 : decode cL_law 1119 = .ok (.aload_n 0, 1) := by decide +kernel
theorem dL_law_1120 : decode cL_law 1120 = .ok (.iload_n 3, 1) := by decide +kernel
theorem dL_law_1121 : decode cL_law 1121 = .ok (.iconst 1, 1) := by decide +kernel
theorem dL_law_1122 : decode cL_law 1122 = .ok (.iadd, 1) := by decide +kernel
theorem dL_law_1123 : decode cL_law 1123 = .ok (.iaload, 1) := by decide +kernel
theorem dL_law_1124 : decode cL_law 1124 = .ok (.invokevirtual 145, 3) := by decide +kernel
theorem dL_law_1127 : decode cL_law 1127 = .ok (.if_icmp .eq 5, 3) := by decide +kernel
theorem dL_law_1130 : decode cL_law 1130 = .ok (.iconst 0, 1) := by decide +kernel
theorem dL_law_1131 : decode cL_law 1131 = .ok (.ireturn, 1) := by decide +kernel
theorem dL_law_1132 : decode cL_law 1132 = .ok (.iinc 3 5, 3) := by decide +kernel
theorem dL_law_1135 : decode cL_law 1135 = .ok (.goto (-1117), 3) := by decide +kernel
theorem dL_law_1138 : decode cL_law 1138 = .ok (.iconst 1, 1) := by decide +kernel
theorem dL_law_1139 : decode cL_law 1139 = .ok (.ireturn, 1) := by decide +kernel
end
section
/-! ===== the one world: cells by number. M : what every int of it is (array i place j; object i slot j); all else (which cell refers to which) stands ===== -/
abbrev Mem : Type := Nat → Nat → Int32
def mset (M : Mem) (i j : Nat) (x : Int32) : Mem := fun a b => if a = i then (if b = j then x else M a b) else M a b
def cls : List vw_C := [(RX0, TX0, 4), (RX1, TX1, 4), (RX3, TX3, 4), (RX4, TX4, 8), (RX5, TX5, 8), (RX6, TX6, 8), (RX7, TX7, 10), (RX8, TX8, 37)]
def tysy (y : Nat → ClassId) : List (ClassId × FieldType) := [(y 0, .int), (y 1, .boolean), (y 2, .array .int), (y 3, .object RX5), (y 4, .object RX1)]
/-- launch, class numbers, array classes, addresses, the cells that are there -/
abbrev Gl : Type := Launch × va_G × (Nat → ClassId) × (Nat → Nat) × List Nat
/-- the machine's own: program, environment, start, method, arguments, below, method, code -/
abbrev Ka : Type := Program × Env × State × MethodId × Array Value × List Frame × Method × Code
/-- the length of int array i (0: no int array) -/
def ial (i : Nat) : Nat :=
  if i < 142 then
    (if i < 11 then (if 2 ≤ i ∧ i ≤ 9 then 9 else 0)
     else if i < 14 then 120
     else if i < 33 then (if 16 ≤ i then 9 else 0)
     else if i < 102 then (if i = 33 then 0 else if (i - 34) % 17 = 0 ∨ (i - 34) % 17 = 5 then 0 else 9)
     else if i < 113 then (if i = 102 ∨ i = 104 then 0 else 9)
     else if i < 138 then (if i = 113 then 0 else if (i - 114) % 12 = 0 ∨ (i - 114) % 12 = 1 ∨ (i - 114) % 12 = 6 then 0 else 9)
     else 9)
  else if i = 142 then 0
  else if i = 143 ∨ i = 144 then 36
  else if i = 146 then 72
  else if i = 147 then 162
  else if i = 148 then 0
  else if i = 149 then 120
  else if i = 157 ∨ i = 158 then 63
  else if i = 160 ∨ i = 161 ∨ i = 162 then 7
  else if i = 168 ∨ i = 169 then 81
  else if i < 174 then 9
  else 0
def refs (n : Nat) (r : Nat → Nat) : Nat → Option Nat := fun j => if j < n then some (r j) else none
def rarr (c : ClassId) (n : Nat) (r : Nat → Nat) : va_E := .inl (c, n, .inr (.inr (.inr (.inr (refs n r)))))
def o_desk (ad : Nat → Nat) : va_E := .inr (6, [.ref (ad 1), .ref (ad 10), .ref (ad 14), .ref (ad 33), .ref (ad 102), .ref (ad 113), .ref (ad 138), .ref (ad 139), .ref (ad 140), .ref (ad 141)])
def o_reck (ad : Nat → Nat) : va_E := .inr (3, [.ref (ad 2), .ref (ad 3), .ref (ad 4), .ref (ad 5), .ref (ad 6), .ref (ad 7), .ref (ad 8), .ref (ad 9)])
def o_text (ad : Nat → Nat) (M : Mem) : va_E := .inr (5, [.ref (ad 11), .ref (ad 12), .int (M 10 2), .int (M 10 3), .ref (ad 13), .int (M 10 5), .int (M 10 6), .int (M 10 7)])
def o_reader (ad : Nat → Nat) (M : Mem) : va_E := .inr (2, [.ref (ad 1), .ref (ad 15), .ref (ad 32), .int (M 14 3)])
def o_row (ad : Nat → Nat) (o : Nat) : va_E := .inr (4, [.ref (ad (o + 1)), .ref (ad (o + 2)), .ref (ad (o + 3)), .ref (ad (o + 4)), .ref (ad (o + 5)), .ref (ad 1), .ref (ad (o + 15)), .ref (ad (o + 16))])
def o_hand (ad : Nat → Nat) (M : Mem) : va_E := .inr (0, [.ref (ad 103), .int (M 102 1), .ref (ad 104), .int (M 102 3)])
def o_kept (ad : Nat → Nat) (M : Mem) (o : Nat) : va_E := .inr (1, [.ref (ad (o + 1)), .ref (ad (o + 6)), .ref (ad (o + 11)), .int (M o 3)])
def o_model (ad : Nat → Nat) (M : Mem) : va_E := .inr (7, [.ref (ad 143), .ref (ad 144), .ref (ad 145), .ref (ad 146), .int (M 142 4), .ref (ad 147), .ref (ad 148), .ref (ad 149), .int (M 142 8), .ref (ad 150), .ref (ad 151), .ref (ad 152), .ref (ad 153), .ref (ad 154), .ref (ad 155), .int (M 142 15), .int (M 142 16), .int (M 142 17), .ref (ad 156), .ref (ad 157), .ref (ad 158), .ref (ad 159), .ref (ad 160), .ref (ad 161), .ref (ad 162), .ref (ad 163), .ref (ad 164), .int (M 142 27), .ref (ad 165), .ref (ad 166), .ref (ad 167), .ref (ad 168), .ref (ad 169), .ref (ad 170), .ref (ad 171), .ref (ad 172), .ref (ad 173)])
/-- the cells that are no int array -/
def ocell (y : Nat → ClassId) (ad : Nat → Nat) (M : Mem) (i : Nat) : va_E :=
  if i = 142 then o_model ad M
  else if i = 148 then .inl (y 1, 2, .inl (M 148))
  else if i = 0 then o_desk ad
  else if i = 1 then o_reck ad
  else if i = 10 then o_text ad M
  else if i = 14 then o_reader ad M
  else if i = 15 then rarr (y 2) 16 (fun j => ad (16 + j))
  else if i = 33 then rarr (y 3) 4 (fun j => ad (34 + 17 * j))
  else if i = 102 then o_hand ad M
  else if i = 104 then rarr (y 2) 8 (fun j => ad (105 + j))
  else if i = 113 then rarr (y 4) 2 (fun j => ad (114 + 12 * j))
  else if i < 102 then (if (i - 34) % 17 = 0 then o_row ad i else rarr (y 2) 9 (fun j => ad (i + 1 + j)))
  else if i < 138 then (if (i - 114) % 12 = 0 then o_kept ad M i else rarr (y 2) 4 (fun j => ad (i + 1 + j)))
  else .inr (0, [])
def cont (y : Nat → ClassId) (ad : Nat → Nat) (M : Mem) (i : Nat) : va_E :=
  if ial i = 0 then ocell y ad M i else .inl (y 0, ial i, .inl (M i))
theorem cont_congr {y : Nat → ClassId} {ad : Nat → Nat} {M M' : Mem} {i : Nat} (h : M i = M' i) : cont y ad M i = cont y ad M' i := by
  unfold cont ocell
  by_cases h0 : ial i = 0
  · simp only [h0, if_true]
    by_cases h1 : i = 142
    · subst h1; simp [o_model, h]
    by_cases h2 : i = 148
    · subst h2; simp [h]
    by_cases h3 : i = 10
    · subst h3; simp [o_text, h]
    by_cases h4 : i = 14
    · subst h4; simp [o_reader, h]
    by_cases h5 : i = 102
    · subst h5; simp [o_hand, h]
    simp only [h1, h2, h3, h4, h5, if_false, o_kept, h]
  · simp only [h0, if_false, h]
def wd (g : Gl) (M : Mem) : va_W := g.2.2.2.2.map (fun i => (g.2.2.2.1 i, cont g.2.2.1 g.2.2.2.1 M i))
def inW (g : Gl) : Nat → Prop := fun q => ∃ i, i ∈ g.2.2.2.2 ∧ q = g.2.2.2.1 i
def Wo (g : Gl) (M : Mem) (H0 H : Heap) (locs : List Loc) : Prop := va_P g.2.1 cls (wd g M) H ∧ va_D (inW g) (wd g M) ∧ va_S (inW g) H0 H locs
theorem wd_at {g : Gl} {M : Mem} {i : Nat} (h : i ∈ g.2.2.2.2) : ∃ k : Nat, g.2.2.2.2[k]? = some i ∧ (wd g M)[k]? = some (g.2.2.2.1 i, cont g.2.2.1 g.2.2.2.1 M i) := by
  obtain ⟨k, hk⟩ := List.getElem?_of_mem h
  exact ⟨k, hk, by unfold wd; rw [List.getElem?_map, hk]; rfl⟩
theorem wd_D {g : Gl} {A B : Nat → Prop} {M M' : Mem} (h : va_D A (wd g M)) (hB : ∀ i, i ∈ g.2.2.2.2 → B (g.2.2.2.1 i)) : va_D B (wd g M') := by
  have key : ∀ (k : Nat) (q : Nat × va_E), (wd g M')[k]? = some q → ∃ i, g.2.2.2.2[k]? = some i ∧ q.1 = g.2.2.2.1 i := by
    intro k q hq
    unfold wd at hq
    rw [List.getElem?_map] at hq
    cases hk : g.2.2.2.2[k]? with
    | none => rw [hk] at hq; cases hq
    | some i => rw [hk] at hq; cases hq; exact ⟨i, rfl, rfl⟩
  refine ⟨fun i j p q hp hq hpq => ?_, fun k q hq => ?_⟩
  · obtain ⟨a, ha, ea⟩ := key i p hp
    obtain ⟨b, hb, eb⟩ := key j q hq
    refine h.1 i j (g.2.2.2.1 a, cont g.2.2.1 g.2.2.2.1 M a) (g.2.2.2.1 b, cont g.2.2.1 g.2.2.2.1 M b) ?_ ?_ ?_
    · unfold wd; rw [List.getElem?_map, ha]; rfl
    · unfold wd; rw [List.getElem?_map, hb]; rfl
    · show g.2.2.2.1 a = g.2.2.2.1 b
      rw [← ea, ← eb]; exact hpq
  · obtain ⟨a, ha, ea⟩ := key k q hq
    rw [ea]; exact hB a (List.mem_of_getElem? ha)
theorem wd_set {g : Gl} {A : Nat → Prop} {M M' : Mem} {i k : Nat} {e : va_E} (hD : va_D A (wd g M)) (hk : g.2.2.2.2[k]? = some i) (he : cont g.2.2.1 g.2.2.2.1 M' i = e) (ho : ∀ a, a ≠ i → M' a = M a) : (wd g M).set k (g.2.2.2.1 i, e) = wd g M' := by
  have hl : k < (wd g M).length := by unfold wd; rw [List.length_map]; exact (List.getElem?_eq_some_iff.mp hk).1
  apply List.ext_getElem?
  intro j
  by_cases hj : j = k
  · subst hj
    rw [List.getElem?_set_self hl]
    unfold wd; rw [List.getElem?_map, hk]
    simp only [Option.map_some, he]
  · rw [List.getElem?_set_ne (Ne.symm hj)]
    unfold wd
    rw [List.getElem?_map, List.getElem?_map]
    cases hb : g.2.2.2.2[j]? with
    | none => simp only [Option.map_none]
    | some b =>
      have hbi : b ≠ i := by
        intro e0
        subst e0
        refine hj (hD.1 j k (g.2.2.2.1 b, cont g.2.2.1 g.2.2.2.1 M b) (g.2.2.2.1 b, cont g.2.2.1 g.2.2.2.1 M b) ?_ ?_ rfl)
        · unfold wd; rw [List.getElem?_map, hb]; rfl
        · unfold wd; rw [List.getElem?_map, hk]; rfl
      simp only [Option.map_some]
      rw [cont_congr (ho b hbi)]
theorem mset_ne {M : Mem} {i j : Nat} {x : Int32} {a : Nat} (h : a ≠ i) : mset M i j x a = M a := by funext b; simp [mset, h]
theorem mset_self {M : Mem} {i j : Nat} {x : Int32} : mset M i j x i = upd (M i) j x := by funext b; simp [mset, upd]
theorem mset_at {M : Mem} {i j : Nat} {x : Int32} : mset M i j x i j = x := by simp [mset]
theorem mset_nat {M : Mem} {i j : Nat} {x : Int32} {k : Nat} (h : k ≠ j) : mset M i j x i k = M i k := by simp [mset, h]
theorem cont_int {y : Nat → ClassId} {ad : Nat → Nat} {M : Mem} {i n : Nat} (h : ial i = n) (hn : 0 < n) : cont y ad M i = .inl (y 0, n, .inl (M i)) := by
  unfold cont; rw [h, if_neg (by omega)]
theorem ial_small (i : Nat) : ial i ≤ 162 := by unfold ial; (repeat' split) <;> omega
end
section
/-! ===== the walk: V, and a row an instruction ===== -/
def hasL (ls : Array Slot) (nL : Nat) (L : List (Option Value)) : Prop := ls.size = nL ∧ lv_wf ls ∧ ∀ (i : Nat) (v : Value), L[i]? = some (some v) → v.category = 1 ∧ ls[i]? = some (.val v)
def prs (L : List (Option Value)) : List (Nat × Value) := (List.range L.length).filterMap (fun i => ((L[i]?).join).map (fun v => (i, v)))
theorem prs_mem {L : List (Option Value)} {i : Nat} {v : Value} : (i, v) ∈ prs L ↔ L[i]? = some (some v) := by
  unfold prs
  rw [List.mem_filterMap]
  constructor
  · rintro ⟨a, -, h⟩
    cases hc : L[a]? with
    | none => rw [hc] at h; cases h
    | some o =>
      cases o with
      | none => rw [hc] at h; cases h
      | some w =>
        rw [hc] at h
        have h2 : (a, w) = (i, v) := Option.some.inj h
        cases h2
        exact hc
  · intro h
    refine ⟨i, List.mem_range.mpr (List.getElem?_eq_some_iff.mp h).1, ?_⟩
    rw [h]; rfl
theorem hasL.lv {ls : Array Slot} {nL : Nat} {L : List (Option Value)} (h : hasL ls nL L) : lv_has ls nL (prs L) := ⟨h.1, h.2.1, fun q hq => (h.2.2 q.1 q.2 (prs_mem.mp (show (q.1, q.2) ∈ prs L from hq))).2⟩
theorem hasL.st {ls ls' : Array Slot} {nL i : Nat} {L : List (Option Value)} {x : Value} (hx : x.category = 1) (h : hasL ls nL L) (h' : lv_has ls' nL ((i, x) :: (prs L).filter (fun q => !(q.1 == i) && !(q.1 + 1 == i && q.2.category == 2)))) : hasL ls' nL (L.set i (some x)) := by
  refine ⟨h'.1, h'.2.1, fun j v hv => ?_⟩
  by_cases hj : j = i
  · subst hj
    have hlt : j < (L.set j (some x)).length := (List.getElem?_eq_some_iff.mp hv).1
    rw [List.length_set] at hlt
    rw [List.getElem?_set_self hlt] at hv
    cases hv
    exact ⟨hx, h'.2.2 (j, x) List.mem_cons_self⟩
  · rw [List.getElem?_set_ne (Ne.symm hj)] at hv
    have hc := h.2.2 j v hv
    refine ⟨hc.1, h'.2.2 (j, v) (List.mem_cons_of_mem _ (List.mem_filter.mpr ⟨prs_mem.mpr hv, ?_⟩))⟩
    simp [hj, hc.1]
def Kx (g : Gl) (cc : ByteArray) (nL : Nat) (own : String) (ret : Option FieldType) (κ : Ka) : Prop :=
  κ.1.tables.exec = Jvm.exec ∧ κ.2.2.2.2.2.2.2.code = cc ∧ κ.2.2.2.2.2.2.2.maxLocals = nL ∧ κ.2.2.1.vm.findClass own = some κ.2.2.2.1.cls ∧ (∀ w ∈ gw, w.before κ.2.2.2.2.1 κ.2.2.1 = true) ∧ va_K g.2.1 cls (tysy g.2.2.1) κ.2.2.1 ∧ (∀ w ∈ nws, va_Nw w κ.2.2.1) ∧ κ.2.2.2.2.2.2.1.locks = false ∧ κ.2.2.2.2.2.2.1.sig.returnType = ret
def Wk (g : Gl) (R : Room) (Q : State → Prop) (κ : Ka) (H : Heap) (locs : List Loc) (f : JFrame) : Prop := W κ.1 g.1 κ.2.1 R κ.2.2.1 κ.2.2.2.1 κ.2.2.2.2.1 κ.2.2.2.2.2.1 κ.2.2.2.2.2.2.1 κ.2.2.2.2.2.2.2 H locs 0 0 Q f
def V (g : Gl) (cc : ByteArray) (nL : Nat) (own : String) (ret : Option FieldType) (R : Room) (Q : State → Prop) (κ : Ka) (M : Mem) (pc : Nat) (L : List (Option Value)) (st : List Value) : Prop :=
  Kx g cc nL own ret κ → ∀ (H : Heap) (locs : List Loc) (ls : Array Slot), Wo g M κ.2.2.1.heap H locs → hasL ls nL L → Wk g R Q κ H locs (F0 κ.2.2.2.1 pc ls st)
section VV
variable {g : Gl} {cc : ByteArray} {nL : Nat} {own : String} {ret : Option FieldType} {R : Room} {Q : State → Prop} {κ : Ka} {M : Mem} {pc : Nat} {L : List (Option Value)} {st : List Value}
theorem V.iload_n {k : Fin 4} {x : Int32} (d : decode cc pc = .ok (.iload_n k, 1)) (h : L[(k : Nat)]? = some (some (.int x))) (kk : V g cc nL own ret R Q κ M (pc + 1) L (.int x :: st)) : V g cc nL own ret R Q κ M pc L st := fun E H locs ls w hl => lv_iload_n E.1 E.2.1 d rfl (hl.2.2 _ _ h).2 (kk E H locs ls w hl)
theorem V.iload {k : Nat} {x : Int32} (d : decode cc pc = .ok (.iload k, 2)) (h : L[k]? = some (some (.int x))) (kk : V g cc nL own ret R Q κ M (pc + 2) L (.int x :: st)) : V g cc nL own ret R Q κ M pc L st := fun E H locs ls w hl => lv_iload E.1 E.2.1 d (hl.2.2 _ _ h).2 (kk E H locs ls w hl)
theorem V.aload_n {k : Fin 4} {x : Nat} (d : decode cc pc = .ok (.aload_n k, 1)) (h : L[(k : Nat)]? = some (some (.ref x))) (kk : V g cc nL own ret R Q κ M (pc + 1) L (.ref x :: st)) : V g cc nL own ret R Q κ M pc L st := fun E H locs ls w hl => lv_aload_n E.1 E.2.1 d rfl (hl.2.2 _ _ h).2 (kk E H locs ls w hl)
theorem V.aload {k : Nat} {x : Nat} (d : decode cc pc = .ok (.aload k, 2)) (h : L[k]? = some (some (.ref x))) (kk : V g cc nL own ret R Q κ M (pc + 2) L (.ref x :: st)) : V g cc nL own ret R Q κ M pc L st := fun E H locs ls w hl => lv_aload E.1 E.2.1 d (hl.2.2 _ _ h).2 (kk E H locs ls w hl)
theorem V.istore_n {k : Fin 4} {x : Int32} (d : decode cc pc = .ok (.istore_n k, 1)) (hn : (k : Nat) < nL) (kk : V g cc nL own ret R Q κ M (pc + 1) (L.set (k : Nat) (some (.int x))) st) : V g cc nL own ret R Q κ M pc L (.int x :: st) := fun E H locs ls w hl => lv_istore_n E.1 E.2.1 d rfl hl.lv hn rfl (fun ls' hl' => kk E H locs ls' w (hl.st rfl hl'))
theorem V.istore {k : Nat} {x : Int32} (d : decode cc pc = .ok (.istore k, 2)) (hn : k < nL) (kk : V g cc nL own ret R Q κ M (pc + 2) (L.set k (some (.int x))) st) : V g cc nL own ret R Q κ M pc L (.int x :: st) := fun E H locs ls w hl => lv_istore E.1 E.2.1 d hl.lv hn rfl (fun ls' hl' => kk E H locs ls' w (hl.st rfl hl'))
theorem V.astore_n {k : Fin 4} {x : Nat} (d : decode cc pc = .ok (.astore_n k, 1)) (hn : (k : Nat) < nL) (kk : V g cc nL own ret R Q κ M (pc + 1) (L.set (k : Nat) (some (.ref x))) st) : V g cc nL own ret R Q κ M pc L (.ref x :: st) := fun E H locs ls w hl => lv_astore_n E.1 E.2.1 d rfl hl.lv hn rfl (fun ls' hl' => kk E H locs ls' w (hl.st rfl hl'))
theorem V.astore {k : Nat} {x : Nat} (d : decode cc pc = .ok (.astore k, 2)) (hn : k < nL) (kk : V g cc nL own ret R Q κ M (pc + 2) (L.set k (some (.ref x))) st) : V g cc nL own ret R Q κ M pc L (.ref x :: st) := fun E H locs ls w hl => lv_astore E.1 E.2.1 d hl.lv hn rfl (fun ls' hl' => kk E H locs ls' w (hl.st rfl hl'))
theorem V.iinc {i : Nat} {n : Int} {x v : Int32} (d : decode cc pc = .ok (.iinc i n, 3)) (hn : i < nL) (h : L[i]? = some (some (.int x))) (hv : x + Int32.ofInt n = v) (kk : V g cc nL own ret R Q κ M (pc + 3) (L.set i (some (.int v))) st) : V g cc nL own ret R Q κ M pc L st := fun E H locs ls w hl => by
  obtain ⟨k, hk⟩ := List.getElem?_of_mem (prs_mem.mpr h)
  exact lv_iinc E.1 E.2.1 d hl.lv (k := k) hk hv hn rfl (fun ls' hl' => kk E H locs ls' w (hl.st rfl hl'))
theorem V.iconst {n : Int} {v : Int32} (d : decode cc pc = .ok (.iconst n, 1)) (hv : Int32.ofInt n = v) (kk : V g cc nL own ret R Q κ M (pc + 1) L (.int v :: st)) : V g cc nL own ret R Q κ M pc L st := fun E H locs ls w hl => lv_iconst E.1 E.2.1 d hv (kk E H locs ls w hl)
theorem V.bipush {n : Int} {v : Int32} (d : decode cc pc = .ok (.bipush n, 2)) (hv : (Int8.ofInt n).toInt32 = v) (kk : V g cc nL own ret R Q κ M (pc + 2) L (.int v :: st)) : V g cc nL own ret R Q κ M pc L st := fun E H locs ls w hl => lv_bipush E.1 E.2.1 d hv (kk E H locs ls w hl)
theorem V.sipush {n : Int} {v : Int32} (d : decode cc pc = .ok (.sipush n, 3)) (hv : (Int16.ofInt n).toInt32 = v) (kk : V g cc nL own ret R Q κ M (pc + 3) L (.int v :: st)) : V g cc nL own ret R Q κ M pc L st := fun E H locs ls w hl => lv_sipush E.1 E.2.1 d hv (kk E H locs ls w hl)
theorem V.iadd {x z : Int32} (d : decode cc pc = .ok (.iadd, 1)) (kk : V g cc nL own ret R Q κ M (pc + 1) L (.int (x + z) :: st)) : V g cc nL own ret R Q κ M pc L (.int z :: .int x :: st) := fun E H locs ls w hl => lv_iadd E.1 E.2.1 d (kk E H locs ls w hl)
theorem V.isub {x z : Int32} (d : decode cc pc = .ok (.isub, 1)) (kk : V g cc nL own ret R Q κ M (pc + 1) L (.int (x - z) :: st)) : V g cc nL own ret R Q κ M pc L (.int z :: .int x :: st) := fun E H locs ls w hl => lv_isub E.1 E.2.1 d (kk E H locs ls w hl)
theorem V.imul {x z : Int32} (d : decode cc pc = .ok (.imul, 1)) (kk : V g cc nL own ret R Q κ M (pc + 1) L (.int (x * z) :: st)) : V g cc nL own ret R Q κ M pc L (.int z :: .int x :: st) := fun E H locs ls w hl => lv_imul E.1 E.2.1 d (kk E H locs ls w hl)
theorem V.irem {x z : Int32} (d : decode cc pc = .ok (.irem, 1)) (hz : ¬ z = 0) (kk : V g cc nL own ret R Q κ M (pc + 1) L (.int (x - x / z * z) :: st)) : V g cc nL own ret R Q κ M pc L (.int z :: .int x :: st) := fun E H locs ls w hl => lv_irem E.1 E.2.1 d hz (kk E H locs ls w hl)
theorem V.idiv {x z : Int32} (d : decode cc pc = .ok (.idiv, 1)) (hz : ¬ z = 0) (kk : V g cc nL own ret R Q κ M (pc + 1) L (.int (x / z) :: st)) : V g cc nL own ret R Q κ M pc L (.int z :: .int x :: st) := fun E H locs ls w hl => lv_idiv E.1 E.2.1 d hz (kk E H locs ls w hl)
theorem V.iand {x z : Int32} (d : decode cc pc = .ok (.iand, 1)) (kk : V g cc nL own ret R Q κ M (pc + 1) L (.int (x &&& z) :: st)) : V g cc nL own ret R Q κ M pc L (.int z :: .int x :: st) := fun E H locs ls w hl => lv_iand E.1 E.2.1 d (kk E H locs ls w hl)
theorem V.ishr {x z : Int32} (d : decode cc pc = .ok (.ishr, 1)) (kk : V g cc nL own ret R Q κ M (pc + 1) L (.int (x >>> (z &&& 31)) :: st)) : V g cc nL own ret R Q κ M pc L (.int z :: .int x :: st) := fun E H locs ls w hl => lv_ishr E.1 E.2.1 d (kk E H locs ls w hl)
theorem V.dup {a : Value} (d : decode cc pc = .ok (.dup, 1)) (ha : a.category = 1) (kk : V g cc nL own ret R Q κ M (pc + 1) L (a :: a :: st)) : V g cc nL own ret R Q κ M pc L (a :: st) := fun E H locs ls w hl => lv_dup E.1 E.2.1 d ha (kk E H locs ls w hl)
theorem V.pop {a : Value} (d : decode cc pc = .ok (.pop, 1)) (ha : a.category = 1) (kk : V g cc nL own ret R Q κ M (pc + 1) L st) : V g cc nL own ret R Q κ M pc L (a :: st) := fun E H locs ls w hl => lv_pop E.1 E.2.1 d ha (kk E H locs ls w hl)
theorem V.dup2 {a b : Value} (d : decode cc pc = .ok (.dup2, 1)) (ha : a.category = 1) (hb : b.category = 1) (kk : V g cc nL own ret R Q κ M (pc + 1) L (a :: b :: a :: b :: st)) : V g cc nL own ret R Q κ M pc L (a :: b :: st) := fun E H locs ls w hl => lv_dup2_11 E.1 E.2.1 d ha hb (kk E H locs ls w hl)
theorem V.goto {off : Int} {tgt : Nat} (d : decode cc pc = .ok (.goto off, 3)) (ht : (pc : Int) + off = (tgt : Int)) (kk : V g cc nL own ret R Q κ M tgt L st) : V g cc nL own ret R Q κ M pc L st := fun E H locs ls w hl => lv_goto E.1 E.2.1 d ht (kk E H locs ls w hl)
theorem V.if_eq {x : Int32} {off : Int} {tgt : Nat} (d : decode cc pc = .ok (.ifCond .eq off, 3)) (ht : (pc : Int) + off = (tgt : Int)) (kt : x = 0 → V g cc nL own ret R Q κ M tgt L st) (kf : ¬ x = 0 → V g cc nL own ret R Q κ M (pc + 3) L st) : V g cc nL own ret R Q κ M pc L (.int x :: st) := fun E H locs ls w hl => lv_if_eq E.1 E.2.1 d ht (fun h => kt h E H locs ls w hl) (fun h => kf h E H locs ls w hl)
theorem V.if_ne {x : Int32} {off : Int} {tgt : Nat} (d : decode cc pc = .ok (.ifCond .ne off, 3)) (ht : (pc : Int) + off = (tgt : Int)) (kt : ¬ x = 0 → V g cc nL own ret R Q κ M tgt L st) (kf : x = 0 → V g cc nL own ret R Q κ M (pc + 3) L st) : V g cc nL own ret R Q κ M pc L (.int x :: st) := fun E H locs ls w hl => lv_if_ne E.1 E.2.1 d ht (fun h => kt h E H locs ls w hl) (fun h => kf h E H locs ls w hl)
theorem V.if_lt {x : Int32} {off : Int} {tgt : Nat} (d : decode cc pc = .ok (.ifCond .lt off, 3)) (ht : (pc : Int) + off = (tgt : Int)) (kt : x < 0 → V g cc nL own ret R Q κ M tgt L st) (kf : ¬ x < 0 → V g cc nL own ret R Q κ M (pc + 3) L st) : V g cc nL own ret R Q κ M pc L (.int x :: st) := fun E H locs ls w hl => lv_if_lt E.1 E.2.1 d ht (fun h => kt h E H locs ls w hl) (fun h => kf h E H locs ls w hl)
theorem V.if_ge {x : Int32} {off : Int} {tgt : Nat} (d : decode cc pc = .ok (.ifCond .ge off, 3)) (ht : (pc : Int) + off = (tgt : Int)) (kt : 0 ≤ x → V g cc nL own ret R Q κ M tgt L st) (kf : ¬ 0 ≤ x → V g cc nL own ret R Q κ M (pc + 3) L st) : V g cc nL own ret R Q κ M pc L (.int x :: st) := fun E H locs ls w hl => lv_if_ge E.1 E.2.1 d ht (fun h => kt h E H locs ls w hl) (fun h => kf h E H locs ls w hl)
theorem V.if_gt {x : Int32} {off : Int} {tgt : Nat} (d : decode cc pc = .ok (.ifCond .gt off, 3)) (ht : (pc : Int) + off = (tgt : Int)) (kt : 0 < x → V g cc nL own ret R Q κ M tgt L st) (kf : ¬ 0 < x → V g cc nL own ret R Q κ M (pc + 3) L st) : V g cc nL own ret R Q κ M pc L (.int x :: st) := fun E H locs ls w hl => lv_if_gt E.1 E.2.1 d ht (fun h => kt h E H locs ls w hl) (fun h => kf h E H locs ls w hl)
theorem V.if_le {x : Int32} {off : Int} {tgt : Nat} (d : decode cc pc = .ok (.ifCond .le off, 3)) (ht : (pc : Int) + off = (tgt : Int)) (kt : x ≤ 0 → V g cc nL own ret R Q κ M tgt L st) (kf : ¬ x ≤ 0 → V g cc nL own ret R Q κ M (pc + 3) L st) : V g cc nL own ret R Q κ M pc L (.int x :: st) := fun E H locs ls w hl => lv_if_le E.1 E.2.1 d ht (fun h => kt h E H locs ls w hl) (fun h => kf h E H locs ls w hl)
theorem V.icmp_eq {x z : Int32} {off : Int} {tgt : Nat} (d : decode cc pc = .ok (.if_icmp .eq off, 3)) (ht : (pc : Int) + off = (tgt : Int)) (kt : x = z → V g cc nL own ret R Q κ M tgt L st) (kf : ¬ x = z → V g cc nL own ret R Q κ M (pc + 3) L st) : V g cc nL own ret R Q κ M pc L (.int z :: .int x :: st) := fun E H locs ls w hl => lv_icmp_eq E.1 E.2.1 d ht (fun h => kt h E H locs ls w hl) (fun h => kf h E H locs ls w hl)
theorem V.icmp_ne {x z : Int32} {off : Int} {tgt : Nat} (d : decode cc pc = .ok (.if_icmp .ne off, 3)) (ht : (pc : Int) + off = (tgt : Int)) (kt : ¬ x = z → V g cc nL own ret R Q κ M tgt L st) (kf : x = z → V g cc nL own ret R Q κ M (pc + 3) L st) : V g cc nL own ret R Q κ M pc L (.int z :: .int x :: st) := fun E H locs ls w hl => lv_icmp_ne E.1 E.2.1 d ht (fun h => kt h E H locs ls w hl) (fun h => kf h E H locs ls w hl)
theorem V.icmp_lt {x z : Int32} {off : Int} {tgt : Nat} (d : decode cc pc = .ok (.if_icmp .lt off, 3)) (ht : (pc : Int) + off = (tgt : Int)) (kt : x < z → V g cc nL own ret R Q κ M tgt L st) (kf : ¬ x < z → V g cc nL own ret R Q κ M (pc + 3) L st) : V g cc nL own ret R Q κ M pc L (.int z :: .int x :: st) := fun E H locs ls w hl => lv_icmp_lt E.1 E.2.1 d ht (fun h => kt h E H locs ls w hl) (fun h => kf h E H locs ls w hl)
theorem V.icmp_ge {x z : Int32} {off : Int} {tgt : Nat} (d : decode cc pc = .ok (.if_icmp .ge off, 3)) (ht : (pc : Int) + off = (tgt : Int)) (kt : z ≤ x → V g cc nL own ret R Q κ M tgt L st) (kf : ¬ z ≤ x → V g cc nL own ret R Q κ M (pc + 3) L st) : V g cc nL own ret R Q κ M pc L (.int z :: .int x :: st) := fun E H locs ls w hl => lv_icmp_ge E.1 E.2.1 d ht (fun h => kt h E H locs ls w hl) (fun h => kf h E H locs ls w hl)
theorem V.icmp_gt {x z : Int32} {off : Int} {tgt : Nat} (d : decode cc pc = .ok (.if_icmp .gt off, 3)) (ht : (pc : Int) + off = (tgt : Int)) (kt : z < x → V g cc nL own ret R Q κ M tgt L st) (kf : ¬ z < x → V g cc nL own ret R Q κ M (pc + 3) L st) : V g cc nL own ret R Q κ M pc L (.int z :: .int x :: st) := fun E H locs ls w hl => lv_icmp_gt E.1 E.2.1 d ht (fun h => kt h E H locs ls w hl) (fun h => kf h E H locs ls w hl)
theorem V.icmp_le {x z : Int32} {off : Int} {tgt : Nat} (d : decode cc pc = .ok (.if_icmp .le off, 3)) (ht : (pc : Int) + off = (tgt : Int)) (kt : x ≤ z → V g cc nL own ret R Q κ M tgt L st) (kf : ¬ x ≤ z → V g cc nL own ret R Q κ M (pc + 3) L st) : V g cc nL own ret R Q κ M pc L (.int z :: .int x :: st) := fun E H locs ls w hl => lv_icmp_le E.1 E.2.1 d ht (fun h => kt h E H locs ls w hl) (fun h => kf h E H locs ls w hl)
theorem V.lookup {dflt : Int} {ps : Array (Int × Int)} {len : Nat} {x : Int32} {off : Int} {tgt : Nat} (d : decode cc pc = .ok (.lookupswitch dflt ps, len)) (hp : (ps.toList.zip (ps.toList.drop 1)).all (fun (a, next) => a.1 < next.1) = true) (ho : Op.lookupswitch.offset ps.toList dflt x.toInt = off) (ht : (pc : Int) + off = (tgt : Int)) (kk : V g cc nL own ret R Q κ M tgt L st) : V g cc nL own ret R Q κ M pc L (.int x :: st) := fun E H locs ls w hl => lv_lookup E.1 E.2.1 d hp ho ht (kk E H locs ls w hl)
theorem V.tableOut {dflt lo hi : Int} {offs : Array Int} {len : Nat} {x : Int32} {tgt : Nat} (d : decode cc pc = .ok (.tableswitch dflt lo hi offs, len)) (h : x.toInt < lo ∨ hi < x.toInt) (ht : (pc : Int) + dflt = (tgt : Int)) (kk : V g cc nL own ret R Q κ M tgt L st) : V g cc nL own ret R Q κ M pc L (.int x :: st) := fun E H locs ls w hl => lv_tableOut E.1 E.2.1 d h ht (kk E H locs ls w hl)
theorem V.tableIn {dflt lo hi : Int} {offs : Array Int} {len : Nat} {x : Int32} {off : Int} {tgt : Nat} (d : decode cc pc = .ok (.tableswitch dflt lo hi offs, len)) (h1 : ¬ x.toInt < lo) (h2 : ¬ hi < x.toInt) (ho : offs[(x.toInt - lo).toNat]? = some off) (ht : (pc : Int) + off = (tgt : Int)) (kk : V g cc nL own ret R Q κ M tgt L st) : V g cc nL own ret R Q κ M pc L (.int x :: st) := fun E H locs ls w hl => lv_tableIn E.1 E.2.1 d h1 h2 ho ht (kk E H locs ls w hl)
/-- an int array's place, read -/
theorem V.iald {i n j : Nat} (d : decode cc pc = .ok (.iaload, 1)) (hi : i ∈ g.2.2.2.2) (hn : ial i = n) (hj : j < n) (kk : V g cc nL own ret R Q κ M (pc + 1) L (.int (M i j) :: st)) : V g cc nL own ret R Q κ M pc L (.int (nI j) :: .ref (g.2.2.2.1 i) :: st) := fun E H locs ls w hl => by
  obtain ⟨k, -, hk⟩ := wd_at (M := M) hi
  have hs := ial_small i
  have hc : (nI j).toNatClampNeg = j := nI_clamp (by omega)
  refine va_iald E.1 E.2.1 E.2.2.2.2.2.1 w.1 k 0 (n := n) (f := M i) (by rw [hk, cont_int hn (by omega)]) rfl (nI_in (by omega) (by omega)) d ?_
  rw [hc]
  exact kk E H locs ls w hl
theorem V.iast {i n j : Nat} {x : Int32} (d : decode cc pc = .ok (.iastore, 1)) (hi : i ∈ g.2.2.2.2) (hn : ial i = n) (hj : j < n) (kk : V g cc nL own ret R Q κ (mset M i j x) (pc + 1) L st) : V g cc nL own ret R Q κ M pc L (.int x :: .int (nI j) :: .ref (g.2.2.2.1 i) :: st) := fun E H locs ls w hl => by
  obtain ⟨k, hk0, hk⟩ := wd_at (M := M) hi
  have hs := ial_small i
  have hc : (nI j).toNatClampNeg = j := nI_clamp (by omega)
  refine va_iast E.1 E.2.1 E.2.2.2.2.2.1 w.1 w.2.1 w.2.2 k 0 (n := n) (f := M i) (by rw [hk, cont_int hn (by omega)]) rfl (nI_in (by omega) (by omega)) d (fun H1 locs1 hP hD hS => ?_)
  have e := wd_set (M' := mset M i j x) (e := .inl (g.2.2.1 0, n, .inl (upd (M i) (nI j).toNatClampNeg x))) w.2.1 hk0 (by rw [cont_int hn (by omega), mset_self, hc]) (fun a ha => mset_ne ha)
  rw [e] at hP hD
  exact kk E H1 locs1 ls ⟨hP, hD, hS⟩ hl
/-- a boolean array's (there is one: 148) -/
theorem V.zald {j : Nat} (d : decode cc pc = .ok (.baload, 1)) (hi : 148 ∈ g.2.2.2.2) (hj : j < 2) (kk : V g cc nL own ret R Q κ M (pc + 1) L (.int (M 148 j) :: st)) : V g cc nL own ret R Q κ M pc L (.int (nI j) :: .ref (g.2.2.2.1 148) :: st) := fun E H locs ls w hl => by
  obtain ⟨k, -, hk⟩ := wd_at (M := M) hi
  have hc : (nI j).toNatClampNeg = j := nI_clamp (by omega)
  refine va_zald E.1 E.2.1 E.2.2.2.2.2.1 w.1 k 1 (n := 2) (f := M 148) (by rw [hk]; rfl) rfl (nI_in (by omega) (by omega)) d ?_
  rw [hc]
  exact kk E H locs ls w hl
/-- an array of references, read -/
theorem V.aald {i n j t : Nat} {cA : ClassId} {ty : FieldType} {r : Nat → Nat} (d : decode cc pc = .ok (.aaload, 1)) (hi : i ∈ g.2.2.2.2) (hc : cont g.2.2.1 g.2.2.2.1 M i = rarr cA n r) (ht : (tysy g.2.2.1)[t]? = some (cA, ty)) (hty : ty.isReference = true) (hn : n ≤ 162) (hj : j < n) (kk : V g cc nL own ret R Q κ M (pc + 1) L (.ref (r j) :: st)) : V g cc nL own ret R Q κ M pc L (.int (nI j) :: .ref (g.2.2.2.1 i) :: st) := fun E H locs ls w hl => by
  obtain ⟨k, -, hk⟩ := wd_at (M := M) hi
  rw [hc] at hk
  have hcl : (nI j).toNatClampNeg = j := nI_clamp (by omega)
  have e : va_rf (refs n r j) = .ref (r j) := by simp [refs, hj, va_rf]
  refine W.aald (v := .ref (r j)) (ty := ty) E.1 E.2.1 (w.1 k _ hk) ((E.2.2.2.2.2.1.2 t _ ht).1 n (fun j => va_rf (refs n r j))) hty (fun q => by cases q) (by show ¬ (nI j < 0 ∨ (arrV _ _ _).slots.size ≤ _); rw [arrV_size]; exact nI_in (N := n) hj (by omega)) (by show (arrV _ _ _).slots[_]? = _; rw [hcl, arrV_read _ _ hj, e]) rfl rfl d (kk E H locs ls w hl)
/-- a field, read -/
theorem V.getf {o ci k N index : Nat} {C : String} {T : u_T} {fs : List Value} {v : Value} (d : decode cc pc = .ok (.getfield index, 3)) (hlink : Cond.fieldLink own index (T k).1 (T k).2.1 (T k).2.2.1 ∈ gw) (hin : ∀ w ∈ u_ws C T N, w ∈ gw) (hcl : cls[ci]? = some (C, T, N)) (ho : o ∈ g.2.2.2.2) (hc : cont g.2.2.1 g.2.2.2.1 M o = .inr (ci, fs)) (hk : k < N) (hv : fs[k]? = some v) (kk : V g cc nL own ret R Q κ M (pc + 3) L (v :: st)) : V g cc nL own ret R Q κ M pc L (.ref (g.2.2.2.1 o) :: st) := fun E H locs ls w hl => by
  obtain ⟨q, -, hq⟩ := wd_at (M := M) ho
  rw [hc] at hq
  exact va_get E.1 E.2.1 E.2.2.2.2.1 hin E.2.2.2.1 E.2.2.2.2.2.1 w.1 q hq hcl k hk (E.2.2.2.2.1 _ hlink) (fun x hx => hx) hv d (kk E H locs ls w hl)
/-- an int field, written -/
theorem V.putf {o ci k N index : Nat} {C : String} {T : u_T} {fs : List Value} {x : Int32} {ty : FieldType} (ty0 : Nat → FieldType) (d : decode cc pc = .ok (.putfield index, 3)) (hlink : Cond.fieldLink own index (T k).1 (T k).2.1 (T k).2.2.1 ∈ gw) (hin : ∀ w ∈ u_ws C T N, w ∈ gw) (hty : ∀ k, k < N → parseFieldDescriptor (T k).2.2.1 = some (ty0 k)) (hnm : ∀ a, a < N → ∀ b, b < N → a ≠ b → (T a).2.1 ≠ (T b).2.1) (hcl : cls[ci]? = some (C, T, N)) (ho : o ∈ g.2.2.2.2) (hc : cont g.2.2.1 g.2.2.2.1 M o = .inr (ci, fs)) (hk : k < N) (hfin : (T k).2.2.2 = false) (he : ty0 k = ty) (hn : narrow ty (.int x) = .int x) (hfit : fits ty (.int x) = true) (hl0 : k < fs.length) (hc2 : cont g.2.2.1 g.2.2.2.1 (mset M o k x) o = .inr (ci, fs.set k (.int x))) (kk : V g cc nL own ret R Q κ (mset M o k x) (pc + 3) L st) : V g cc nL own ret R Q κ M pc L (.int x :: .ref (g.2.2.2.1 o) :: st) := fun E H locs ls w hl => by
  obtain ⟨q, hq0, hq⟩ := wd_at (M := M) ho
  rw [hc] at hq
  refine va_put E.1 E.2.1 E.2.2.2.2.1 hin ty0 hty hnm E.2.2.2.1 E.2.2.2.2.2.1 w.1 w.2.1 w.2.2 q hq hcl k hk (E.2.2.2.2.1 _ hlink) (fun x hx => hx) hfin (ty := ty) (by rw [← he]; exact hty k hk) hn hfit hl0 d (fun H1 locs1 hP hD hS => ?_)
  have e := wd_set (M' := mset M o k x) (e := .inr (ci, fs.set k (.int x))) w.2.1 hq0 hc2 (fun a ha => mset_ne ha)
  rw [e] at hP hD
  exact kk E H1 locs1 ls ⟨hP, hD, hS⟩ hl
end VV
end
section
/-! ===== contracts, calls, ends ===== -/
def rmd (d : Nat) : Room := { frames := d, cells := 0, slots := 0, locals := 40 * d }
def isNest : Cond → Bool
  | .methodLinkNest _ _ _ _ => true
  | _ => false
theorem nws_nest : ∀ w ∈ nws, isNest w = true := by decide +kernel
theorem nw_warm {s U : State} (hW : s.WarmedH U.vm) (h : ∀ w ∈ nws, va_Nw w s) : ∀ w ∈ nws, va_Nw w U := by
  intro w hw
  have h1 := nws_nest w hw
  have h2 := h w hw
  cases w <;> first | exact va_Nw.warmM hW h2 | (exact absurd h1 (by simp [isNest]))
theorem nw_same {s U : State} (hW : s.vm = U.vm) (h : ∀ w ∈ nws, va_Nw w s) : ∀ w ∈ nws, va_Nw w U := by
  intro w hw
  have h1 := nws_nest w hw
  have h2 := h w hw
  cases w <;> first | exact va_Nw.same rfl hW h2 | (exact absurd h1 (by simp [isNest]))
def Pcw (g : Gl) (av : List Value) (M : Mem) : Array Value → State → Prop := fun v U => v = av.toArray ∧ va_P g.2.1 cls (wd g M) U.heap ∧ va_K g.2.1 cls (tysy g.2.2.1) U ∧ va_D (fun _ => True) (wd g M) ∧ ∀ w ∈ nws, va_Nw w U
def Qcw (g : Gl) (Qr : Option Value → Mem → Prop) : Array Value → State → Outcome → State → Prop := fun _ st oc t => (∃ (v : Option Value) (M' : Mem), oc = .returned v ∧ Qr v M' ∧ va_P g.2.1 cls (wd g M') t.heap) ∧ va_F (inW g) st t
/-- the contract of a method in the world: av its arguments, M what it finds, Qr what it answers and leaves; d: how deep it calls -/
def Ct (g : Gl) (yn : MethodName) (cc : ByteArray) (nL : Nat) (ret : Option FieldType) (d : Nat) (av : List Value) (M : Mem) (Qr : Option Value → Mem → Prop) : Prop :=
  Met g.1 yn (.code yn cc nL ret :: gw) (rmd d) (Pcw g av M) (Qcw g Qr) 0 0 (inW g)
def Qm (g : Gl) (κ : Ka) (Qr : Option Value → Mem → Prop) : State → Prop := MQ κ.2.2.2.2.2.1 (Qcw g Qr) κ.2.2.2.2.1 κ.2.2.1 0 0 (inW g)
def entL (av : List Value) (nL : Nat) : List (Option Value) := av.map some ++ List.replicate (nL - av.length) none
theorem Ct.mono {g : Gl} {yn : MethodName} {cc : ByteArray} {nL : Nat} {ret : Option FieldType} {d : Nat} {av : List Value} {M : Mem} {Qr Qr' : Option Value → Mem → Prop} (h : Ct g yn cc nL ret d av M Qr) (hq : ∀ v M', Qr v M' → Qr' v M') : Ct g yn cc nL ret d av M Qr' := by
  intro p e ha hc hk s m args below hf hpre hP hK
  obtain ⟨k, o, h1, h2, h3, ⟨⟨v, M', q1, q2, q3⟩, q4⟩, h5⟩ := h p e ha hc hk s m args below hf hpre hP hK
  exact ⟨k, o, h1, h2, h3, ⟨⟨v, M', q1, hq v M' q2, q3⟩, q4⟩, h5⟩
theorem cat1_sl : ∀ av : List Value, (∀ v ∈ av, v.category = 1) → lg_sl av = av.map Slot.val
  | [], _ => rfl
  | v :: t, h => by
    have h1 : v.category = 1 := h v List.mem_cons_self
    show (if v.category = 2 then [Slot.val v, Slot.second] else [Slot.val v]) ++ lg_sl t = _
    rw [if_neg (by rw [h1]; decide), cat1_sl t (fun w hw => h w (List.mem_cons_of_mem _ hw))]
    rfl
theorem cat1_args : ∀ (av : List Value) (i : Nat), (∀ v ∈ av, v.category = 1) → ∀ (k : Nat) (v : Value), av[k]? = some v → (i + k, v) ∈ lv_args i av
  | [], _, _, k, v, h => by simp at h
  | a :: t, i, h, k, v, hv => by
    have h1 : a.category = 1 := h a List.mem_cons_self
    show (i + k, v) ∈ (i, a) :: lv_args (if a.category = 2 then i + 2 else i + 1) t
    rw [if_neg (by rw [h1]; decide)]
    cases k with
    | zero => rw [List.getElem?_cons_zero] at hv; cases hv; exact List.mem_cons_self
    | succ k =>
      rw [List.getElem?_cons_succ] at hv
      refine List.mem_cons_of_mem _ ?_
      have := cat1_args t (i + 1) (fun w hw => h w (List.mem_cons_of_mem _ hw)) k v hv
      rw [show i + (k + 1) = i + 1 + k by omega]
      exact this
theorem Ct.ofV {g : Gl} {yn : MethodName} {cc : ByteArray} {nL : Nat} {ret : Option FieldType} {d : Nat} {av : List Value} {M : Mem} {Qr : Option Value → Mem → Prop} (hy : plainName yn.cls = true) (hn : av.length ≤ nL) (hcat : ∀ v ∈ av, v.category = 1)
    (h : ∀ κ : Ka, V g cc nL yn.cls ret (rmd d) (Qm g κ Qr) κ M 0 (entL av nL) []) : Ct g yn cc nL ret d av M Qr := by
  refine Met.ofW (cc := cc) (maxL := nL) (ret := ret) hy rfl ?_
  intro p e s m args below meth c s₁ B hml hv
  obtain ⟨rfl, hP, hK, hD0, hN⟩ := hv
  have hts := atoms_spec (ws := .code yn cc nL ret :: gw) B.pre
  have hown : s.vm.findClass yn.cls = some m.cls := findClass_of_methodNamed B.named
  have hl := lv_entry av (n := nL) (by rw [cat1_sl av hcat, List.length_map]; exact hn)
  rw [lg_entry_eq]
  refine h (p, e, s, m, av.toArray, below, meth, c) ⟨B.exec, B.bytes, hml, hown, fun w hw => hts w (List.mem_cons_of_mem _ hw), hK, hN, B.notSynchronized, B.returns⟩ s.heap [] _ ⟨hP, wd_D hD0 (fun i hi => ⟨i, hi, rfl⟩), va_S.rf⟩ ⟨hl.1, hl.2.1, fun i v hiv => ?_⟩
  unfold entL at hiv
  by_cases hi : i < av.length
  · rw [List.getElem?_append_left (by rw [List.length_map]; exact hi), List.getElem?_map] at hiv
    cases ha : av[i]? with
    | none => rw [ha] at hiv; cases hiv
    | some w =>
      rw [ha] at hiv
      cases hiv
      refine ⟨hcat _ (List.mem_of_getElem? ha), ?_⟩
      have := cat1_args av 0 hcat i v ha
      rw [Nat.zero_add] at this
      exact hl.2.2 _ this
  · rw [List.getElem?_append_right (by rw [List.length_map]; omega)] at hiv
    rw [List.getElem?_replicate] at hiv
    split at hiv <;> cases hiv
theorem Pcw_blind {g : Gl} {av : List Value} {M : Mem} : FrameBlind (Pcw g av M) := fun a U gf mk q => by
  obtain ⟨q0, q1, q2, q3, q4⟩ := q
  exact ⟨q0, q1, va_K.moved (u := U) (U := U.calling gf mk a) (Vm.Alike.refl U.vm) q2, q3, nw_same (s := U) (U := U.calling gf mk a) rfl q4⟩
theorem gw_code {yn : MethodName} {cc : ByteArray} {nL : Nat} {ret : Option FieldType} (h : Cond.code yn cc nL ret ∈ gw) : GoodIn gw (.code yn cc nL ret :: gw) := fun w hw => by
  rcases List.mem_cons.mp hw with rfl | hw
  · exact gw_good _ h
  · exact gw_good _ hw
section VC
variable {g : Gl} {cc : ByteArray} {nL : Nat} {own : String} {ret : Option FieldType} {R : Room} {Q : State → Prop} {κ : Ka} {M : Mem} {pc : Nat} {L : List (Option Value)} {st : List Value}
theorem Wo.pre {s U : State} {H0 H : Heap} {locs : List Loc} {av : List Value} (w : Wo g M H0 H locs) (hK : va_K g.2.1 cls (tysy g.2.2.1) s) (hN : ∀ w ∈ nws, va_Nw w s) (hU : U.heap = H) (hW : s.WarmedH U.vm) : Pcw g av M av.toArray U := ⟨rfl, by rw [hU]; exact w.1, va_K.moved hW.alike hK, wd_D w.2.1 (fun _ _ => trivial), nw_warm hW hN⟩
theorem V.after {y2 : MethodName} {av2 : Array Value} {Qr : Option Value → Mem → Prop} {H : Heap} {locs : List Loc} {ls : Array Slot} {st0 : List Value} (E : Kx g cc nL own ret κ) (w : Wo g M κ.2.2.1.heap H locs) (hl : hasL ls nL L)
    (run : va_Run κ.1 g.1 κ.2.1 R κ.2.2.1 κ.2.2.2.1 κ.2.2.2.2.1 κ.2.2.2.2.2.1 κ.2.2.2.2.2.2.1 κ.2.2.2.2.2.2.2 H locs 0 0 0 0 (F0 κ.2.2.2.1 pc ls st0) st (Qcw g Qr av2) (inW g))
    (kk : ∀ (v : Option Value) (M' : Mem), Qr v M' → V g cc nL own ret R Q κ M' (pc + 3) L (v.toList ++ st)) : Wk g R Q κ H locs (F0 κ.2.2.2.1 pc ls st0) := by
  intro T hT X
  obtain ⟨v, st₀, t, T', L', h0, X', hL', e1, e2, ⟨⟨v', M', hv, hq, hP'⟩, hz, hk⟩, stp⟩ := run T hT X
  cases hv
  rw [h0] at hz hk
  obtain ⟨t2, a1, b1⟩ := kk v M' hq E T'.heap (locs ++ L') ls ⟨by rw [e1]; exact hP', wd_D w.2.1 (fun i hi => ⟨i, hi, rfl⟩), ⟨Nat.le_trans w.2.2.1 (by rw [e1]; exact hz), fun q h1 h2 => by rw [e1, hk q (Nat.lt_of_lt_of_le h1 w.2.2.1) h2]; exact w.2.2.2.1 q h1 h2, fun q hq => by
      rcases List.mem_append.mp hq with h | h
      · exact w.2.2.2.2 q h
      · exact hL' q h⟩⟩ hl T' rfl X'
  exact ⟨t2, stp t2 a1, b1⟩
/-- a static method called -/
theorem V.callS {yn : MethodName} {c2 : ByteArray} {n2 d2 index : Nat} {r2 : Option FieldType} {av st0 : List Value} {Qr : Option Value → Mem → Prop} (d : decode cc pc = .ok (.invokestatic index, 3)) (hM : Ct g yn c2 n2 r2 d2 av M Qr) (hl : Cond.methodLink own index yn ∈ gw) (hs : Cond.static yn ∈ gw) (hc : Cond.code yn c2 n2 r2 ∈ gw) (hi : Cond.initialized yn.cls ∈ gw)
    (hd : yn.cls ≠ "java/lang/invoke/MethodHandle" ∧ yn.cls ≠ "java/lang/invoke/VarHandle" ∧ (parseMethodDescriptor yn.desc).map (fun d => d.parameters.length) = some av.length) (hR : d2 + 1 ≤ R.frames ∧ 8 + (n2 + 11) + 40 * d2 ≤ R.locals) (h0 : st0 = av.reverse ++ st) (hw : (st.map fun v => v.category).sum ≤ 8)
    (kk : ∀ (v : Option Value) (M' : Mem), Qr v M' → V g cc nL own ret R Q κ M' (pc + 3) L (v.toList ++ st)) : V g cc nL own ret R Q κ M pc L st0 := fun E H locs ls w hls =>
  V.after (y2 := yn) (av2 := av.toArray) E w hls (va_runS (Ts := gw) (own := own) ⟨E.1, E.2.1, E.2.2.1, E.2.2.2.1, E.2.2.2.2.1⟩ hM ⟨callB_of av.length E.2.2.2.2.1 (gw_code hc) rfl rfl rfl (E.2.2.2.2.1 _ hi) (E.2.2.2.2.1 _ hl) hd hR, E.2.2.2.2.1 _ hs⟩ ⟨Pcw_blind, fun U hU hW => w.pre E.2.2.2.2.2.1 E.2.2.2.2.2.2.1 hU hW⟩ rfl rfl hls.1 h0 (lv_room hw) d ⟨Nat.zero_le _, Nat.zero_le _⟩) kk
/-- a private static method of a nest mate called -/
theorem V.callSN {yn : MethodName} {c2 : ByteArray} {n2 d2 index : Nat} {r2 : Option FieldType} {av st0 : List Value} {Qr : Option Value → Mem → Prop} {host : String} (d : decode cc pc = .ok (.invokestatic index, 3)) (hM : Ct g yn c2 n2 r2 d2 av M Qr) (hl : Cond.methodLinkNest own index yn host ∈ nws) (hs : Cond.static yn ∈ gw) (hc : Cond.code yn c2 n2 r2 ∈ gw) (hi : Cond.initialized yn.cls ∈ gw)
    (hd : yn.cls ≠ "java/lang/invoke/MethodHandle" ∧ yn.cls ≠ "java/lang/invoke/VarHandle" ∧ (parseMethodDescriptor yn.desc).map (fun d => d.parameters.length) = some av.length) (hR : d2 + 1 ≤ R.frames ∧ 8 + (n2 + 11) + 40 * d2 ≤ R.locals) (h0 : st0 = av.reverse ++ st) (hw : (st.map fun v => v.category).sum ≤ 8)
    (kk : ∀ (v : Option Value) (M' : Mem), Qr v M' → V g cc nL own ret R Q κ M' (pc + 3) L (v.toList ++ st)) : V g cc nL own ret R Q κ M pc L st0 := fun E H locs ls w hls =>
  V.after (y2 := yn) (av2 := av.toArray) E w hls (va_runSN (Ts := gw) (own := own) ⟨E.1, E.2.1, E.2.2.1, E.2.2.2.1, E.2.2.2.2.1⟩ hM ⟨va_cnB av.length E.2.2.2.2.1 (gw_code hc) rfl rfl rfl (E.2.2.2.2.2.2.1 _ hl) (E.2.2.2.2.1 _ hi) hd hR, E.2.2.2.2.1 _ hs, trivial⟩ ⟨Pcw_blind, fun U hU hW => w.pre E.2.2.2.2.2.1 E.2.2.2.2.2.2.1 hU hW⟩ rfl rfl hls.1 h0 (lv_room hw) d ⟨Nat.zero_le _, Nat.zero_le _⟩) kk
/-- an object's method called -/
theorem V.callV {yn : MethodName} {c2 : ByteArray} {n2 d2 index o ci N : Nat} {T : u_T} {fs : List Value} {r2 : Option FieldType} {av st0 : List Value} {Qr : Option Value → Mem → Prop} (d : decode cc pc = .ok (.invokevirtual index, 3)) (hM : Ct g yn c2 n2 r2 d2 (.ref (g.2.2.2.1 o) :: av) M Qr) (hl : Cond.methodLink own index yn ∈ gw) (hs : Cond.instanceMethod yn ∈ gw) (hse : Cond.selects yn.cls yn yn ∈ gw) (hc : Cond.code yn c2 n2 r2 ∈ gw) (hi : Cond.initialized yn.cls ∈ gw)
    (hcl : cls[ci]? = some (yn.cls, T, N)) (ho : o ∈ g.2.2.2.2) (hco : cont g.2.2.1 g.2.2.2.1 M o = .inr (ci, fs))
    (hd : yn.cls ≠ "java/lang/invoke/MethodHandle" ∧ yn.cls ≠ "java/lang/invoke/VarHandle" ∧ (parseMethodDescriptor yn.desc).map (fun d => d.parameters.length) = some av.length) (hR : d2 + 1 ≤ R.frames ∧ 8 + (n2 + 11) + 40 * d2 ≤ R.locals) (h0 : st0 = av.reverse ++ .ref (g.2.2.2.1 o) :: st) (hw : (st.map fun v => v.category).sum ≤ 8)
    (kk : ∀ (v : Option Value) (M' : Mem), Qr v M' → V g cc nL own ret R Q κ M' (pc + 3) L (v.toList ++ st)) : V g cc nL own ret R Q κ M pc L st0 := fun E H locs ls w hls => by
  obtain ⟨q, -, hq⟩ := wd_at (M := M) ho
  rw [hco] at hq
  exact V.after (y2 := yn) (av2 := (.ref (g.2.2.2.1 o) :: av : List Value).toArray) E w hls (va_runV (Ts := gw) (own := own) (C := yn.cls) (b := g.2.2.2.1 o) (As := av) ⟨E.1, E.2.1, E.2.2.1, E.2.2.2.1, E.2.2.2.2.1⟩ hM ⟨callB_of av.length E.2.2.2.2.1 (gw_code hc) rfl rfl rfl (E.2.2.2.2.1 _ hi) (E.2.2.2.2.1 _ hl) hd hR, E.2.2.2.2.1 _ hs, E.2.2.2.2.1 _ hse⟩ ⟨Pcw_blind, va_recv E.2.2.2.2.2.1 w.1 hcl hq, fun U hU hW => w.pre E.2.2.2.2.2.1 E.2.2.2.2.2.2.1 hU hW⟩ rfl rfl hls.1 h0 (lv_room hw) d ⟨Nat.zero_le _, Nat.zero_le _⟩) kk
end VC
section VR
variable {g : Gl} {cc : ByteArray} {nL : Nat} {own : String} {ret : Option FieldType} {R : Room} {κ : Ka} {M : Mem} {pc : Nat} {L : List (Option Value)} {st : List Value} {Qr : Option Value → Mem → Prop}
theorem V.iret {x : Int32} (d : decode cc pc = .ok (.ireturn, 1)) (h : Qr (some (.int x)) M) : V g cc nL own (some .int) R (Qm g κ Qr) κ M pc L [.int x] := fun E H locs ls w hls =>
  W.iret E.1 E.2.1 E.2.2.2.2.2.2.2.2 (fun t ht _ => ⟨⟨some (.int x), M, rfl, h, by rw [ht]; exact w.1⟩, w.2.2.F ht⟩) (fun q hq => w.2.2.2.2 q hq) d E.2.2.2.2.2.2.2.1
theorem V.zret {x : Int32} (d : decode cc pc = .ok (.ireturn, 1)) (hn : narrow .boolean (.int x) = .int x) (h : Qr (some (.int x)) M) : V g cc nL own (some .boolean) R (Qm g κ Qr) κ M pc L [.int x] := fun E H locs ls w hls =>
  W.zret E.1 E.2.1 E.2.2.2.2.2.2.2.2 hn (fun t ht _ => ⟨⟨some (.int x), M, rfl, h, by rw [ht]; exact w.1⟩, w.2.2.F ht⟩) (fun q hq => w.2.2.2.2 q hq) d E.2.2.2.2.2.2.2.1
theorem V.vret (d : decode cc pc = .ok (.return_, 1)) (h : Qr none M) : V g cc nL own none R (Qm g κ Qr) κ M pc L [] := fun E H locs ls w hls =>
  W.vret E.1 E.2.1 E.2.2.2.2.2.2.2.2 (fun t ht _ => ⟨⟨none, M, rfl, h, by rw [ht]; exact w.1⟩, w.2.2.F ht⟩) (fun q hq => w.2.2.2.2 q hq) d E.2.2.2.2.2.2.2.1
theorem V.aret {a : Nat} {ty : FieldType} (d : decode cc pc = .ok (.areturn, 1)) (h : Qr (some (.ref a)) M) : V g cc nL own (some (.array ty)) R (Qm g κ Qr) κ M pc L [.ref a] := fun E H locs ls w hls =>
  W.aret E.1 E.2.1 E.2.2.2.2.2.2.2.2 (Or.inr ⟨ty, rfl⟩) (Or.inr ⟨a, rfl⟩) (fun t ht _ => ⟨⟨some (.ref a), M, rfl, h, by rw [ht]; exact w.1⟩, w.2.2.F ht⟩) (fun q hq => w.2.2.2.2 q hq) d E.2.2.2.2.2.2.2.1
end VR
end
section
/-! ===== rows over whole numbers; loops; arrays ===== -/
theorem nI_i (k : Nat) : Int32.ofInt (k : Int) = nI k := by rw [nI, Int32.ofInt_eq_ofNat]
theorem nI_dec (k : Nat) : nI (k + 1) + Int32.ofInt (-1) = nI (k + 1) - 1 := by
  rw [show Int32.ofInt (-1) = (-1 : Int32) from rfl, pk_m1, nI_pred]
theorem nI_dec' (k : Nat) : nI k + Int32.ofInt (-1) = nI k - 1 := by
  rw [show Int32.ofInt (-1) = -(1 : Int32) from rfl, ← Int32.sub_eq_add_neg]
theorem nI_inc (k : Nat) : nI k + Int32.ofInt 1 = nI (k + 1) := nI_1 k
theorem nI_m1neg : nI 0 - 1 < 0 := by decide
section VN
variable {g : Gl} {cc : ByteArray} {nL : Nat} {own : String} {ret : Option FieldType} {R : Room} {Q : State → Prop} {κ : Ka} {M : Mem} {pc : Nat} {L : List (Option Value)} {st : List Value}
theorem V.iaddN {a b : Nat} (d : decode cc pc = .ok (.iadd, 1)) (kk : V g cc nL own ret R Q κ M (pc + 1) L (.int (nI (a + b)) :: st)) : V g cc nL own ret R Q κ M pc L (.int (nI b) :: .int (nI a) :: st) := V.iadd d (by rw [nI_add]; exact kk)
theorem V.isubN {a b : Nat} (d : decode cc pc = .ok (.isub, 1)) (h : b ≤ a) (kk : V g cc nL own ret R Q κ M (pc + 1) L (.int (nI (a - b)) :: st)) : V g cc nL own ret R Q κ M pc L (.int (nI b) :: .int (nI a) :: st) := V.isub d (by rw [pk_sub h]; exact kk)
theorem V.imulN {a b : Nat} (d : decode cc pc = .ok (.imul, 1)) (kk : V g cc nL own ret R Q κ M (pc + 1) L (.int (nI (a * b)) :: st)) : V g cc nL own ret R Q κ M pc L (.int (nI b) :: .int (nI a) :: st) := V.imul d (by rw [pk_mul]; exact kk)
theorem V.iremN {a b : Nat} (d : decode cc pc = .ok (.irem, 1)) (ha : a < 2 ^ 31) (h0 : 0 < b) (hb : b < 2 ^ 31) (kk : V g cc nL own ret R Q κ M (pc + 1) L (.int (nI (a % b)) :: st)) : V g cc nL own ret R Q κ M pc L (.int (nI b) :: .int (nI a) :: st) := V.irem d (nI_ne0 h0 hb) (by rw [pk_rem ha h0 hb]; exact kk)
theorem V.idivN {a b : Nat} (d : decode cc pc = .ok (.idiv, 1)) (ha : a < 2 ^ 31) (h0 : 0 < b) (hb : b < 2 ^ 31) (kk : V g cc nL own ret R Q κ M (pc + 1) L (.int (nI (a / b)) :: st)) : V g cc nL own ret R Q κ M pc L (.int (nI b) :: .int (nI a) :: st) := V.idiv d (nI_ne0 h0 hb) (by rw [pk_div ha h0 hb]; exact kk)
theorem V.iincN {i j : Nat} (d : decode cc pc = .ok (.iinc i 1, 3)) (hn : i < nL) (h : L[i]? = some (some (.int (nI j)))) (kk : V g cc nL own ret R Q κ M (pc + 3) (L.set i (some (.int (nI (j + 1))))) st) : V g cc nL own ret R Q κ M pc L st := V.iinc d hn h (nI_inc j) kk
theorem V.iincD {i j : Nat} (d : decode cc pc = .ok (.iinc i (-1), 3)) (hn : i < nL) (h : L[i]? = some (some (.int (nI j)))) (kk : V g cc nL own ret R Q κ M (pc + 3) (L.set i (some (.int (nI j - 1)))) st) : V g cc nL own ret R Q κ M pc L st := V.iinc d hn h (nI_dec' j) kk
theorem V.geN {a b : Nat} {off : Int} {tgt : Nat} (d : decode cc pc = .ok (.if_icmp .ge off, 3)) (ht : (pc : Int) + off = (tgt : Int)) (ha : a < 2 ^ 31) (hb : b < 2 ^ 31) (kt : b ≤ a → V g cc nL own ret R Q κ M tgt L st) (kf : a < b → V g cc nL own ret R Q κ M (pc + 3) L st) : V g cc nL own ret R Q κ M pc L (.int (nI b) :: .int (nI a) :: st) := V.icmp_ge d ht (fun h => kt ((nI_leI hb ha).mp h)) (fun h => kf (by have := mt (nI_leI hb ha).mpr h; omega))
theorem V.gtN {a b : Nat} {off : Int} {tgt : Nat} (d : decode cc pc = .ok (.if_icmp .gt off, 3)) (ht : (pc : Int) + off = (tgt : Int)) (ha : a < 2 ^ 31) (hb : b < 2 ^ 31) (kt : b < a → V g cc nL own ret R Q κ M tgt L st) (kf : a ≤ b → V g cc nL own ret R Q κ M (pc + 3) L st) : V g cc nL own ret R Q κ M pc L (.int (nI b) :: .int (nI a) :: st) := V.icmp_gt d ht (fun h => kt ((nI_ltI hb ha).mp h)) (fun h => kf (by have := mt (nI_ltI hb ha).mpr h; omega))
theorem V.leN {a b : Nat} {off : Int} {tgt : Nat} (d : decode cc pc = .ok (.if_icmp .le off, 3)) (ht : (pc : Int) + off = (tgt : Int)) (ha : a < 2 ^ 31) (hb : b < 2 ^ 31) (kt : a ≤ b → V g cc nL own ret R Q κ M tgt L st) (kf : b < a → V g cc nL own ret R Q κ M (pc + 3) L st) : V g cc nL own ret R Q κ M pc L (.int (nI b) :: .int (nI a) :: st) := V.icmp_le d ht (fun h => kt ((nI_leI ha hb).mp h)) (fun h => kf (by have := mt (nI_leI ha hb).mpr h; omega))
theorem V.ltN {a b : Nat} {off : Int} {tgt : Nat} (d : decode cc pc = .ok (.if_icmp .lt off, 3)) (ht : (pc : Int) + off = (tgt : Int)) (ha : a < 2 ^ 31) (hb : b < 2 ^ 31) (kt : a < b → V g cc nL own ret R Q κ M tgt L st) (kf : b ≤ a → V g cc nL own ret R Q κ M (pc + 3) L st) : V g cc nL own ret R Q κ M pc L (.int (nI b) :: .int (nI a) :: st) := V.icmp_lt d ht (fun h => kt ((nI_ltI ha hb).mp h)) (fun h => kf (by have := mt (nI_ltI ha hb).mpr h; omega))
theorem V.eqN {a b : Nat} {off : Int} {tgt : Nat} (d : decode cc pc = .ok (.if_icmp .eq off, 3)) (ht : (pc : Int) + off = (tgt : Int)) (ha : a < 2 ^ 31) (hb : b < 2 ^ 31) (kt : a = b → V g cc nL own ret R Q κ M tgt L st) (kf : a ≠ b → V g cc nL own ret R Q κ M (pc + 3) L st) : V g cc nL own ret R Q κ M pc L (.int (nI b) :: .int (nI a) :: st) := V.icmp_eq d ht (fun h => kt ((nI_eq ha hb).mp h)) (fun h => kf (mt (nI_eq ha hb).mpr h))
theorem V.neN {a b : Nat} {off : Int} {tgt : Nat} (d : decode cc pc = .ok (.if_icmp .ne off, 3)) (ht : (pc : Int) + off = (tgt : Int)) (ha : a < 2 ^ 31) (hb : b < 2 ^ 31) (kt : a ≠ b → V g cc nL own ret R Q κ M tgt L st) (kf : a = b → V g cc nL own ret R Q κ M (pc + 3) L st) : V g cc nL own ret R Q κ M pc L (.int (nI b) :: .int (nI a) :: st) := V.icmp_ne d ht (fun h => kt (mt (nI_eq ha hb).mpr h)) (fun h => kf ((nI_eq ha hb).mp h))
theorem V.if_eqN {a : Nat} {off : Int} {tgt : Nat} (d : decode cc pc = .ok (.ifCond .eq off, 3)) (ht : (pc : Int) + off = (tgt : Int)) (ha : a < 2 ^ 31) (kt : a = 0 → V g cc nL own ret R Q κ M tgt L st) (kf : a ≠ 0 → V g cc nL own ret R Q κ M (pc + 3) L st) : V g cc nL own ret R Q κ M pc L (.int (nI a) :: st) := V.if_eq d ht (fun h => kt ((nI_eq ha (by decide)).mp (h.trans nI_0.symm))) (fun h => kf (fun e => h (by rw [e]; rfl)))
theorem V.if_neN {a : Nat} {off : Int} {tgt : Nat} (d : decode cc pc = .ok (.ifCond .ne off, 3)) (ht : (pc : Int) + off = (tgt : Int)) (ha : a < 2 ^ 31) (kt : a ≠ 0 → V g cc nL own ret R Q κ M tgt L st) (kf : a = 0 → V g cc nL own ret R Q κ M (pc + 3) L st) : V g cc nL own ret R Q κ M pc L (.int (nI a) :: st) := V.if_ne d ht (fun h => kt (fun e => h (by rw [e]; rfl))) (fun h => kf ((nI_eq ha (by decide)).mp (h.trans nI_0.symm)))
theorem V.if_leN {a : Nat} {off : Int} {tgt : Nat} (d : decode cc pc = .ok (.ifCond .le off, 3)) (ht : (pc : Int) + off = (tgt : Int)) (ha : a < 2 ^ 31) (kt : a = 0 → V g cc nL own ret R Q κ M tgt L st) (kf : 0 < a → V g cc nL own ret R Q κ M (pc + 3) L st) : V g cc nL own ret R Q κ M pc L (.int (nI a) :: st) := V.if_le d ht (fun h => kt (by have := (nI_leI ha (by decide : (0 : Nat) < 2 ^ 31)).mp h; omega)) (fun h => kf (by rcases Nat.eq_zero_or_pos a with e | e; exact absurd (by rw [e]; decide) h; exact e))
/-- the end of a loop that goes down: its number is one less than k -/
theorem V.if_ltD {k : Nat} {off : Int} {tgt : Nat} (d : decode cc pc = .ok (.ifCond .lt off, 3)) (ht : (pc : Int) + off = (tgt : Int)) (hk : k < 2 ^ 31) (kt : k = 0 → V g cc nL own ret R Q κ M tgt L st) (kf : ∀ j, k = j + 1 → V g cc nL own ret R Q κ M (pc + 3) L st) : V g cc nL own ret R Q κ M pc L (.int (nI k - 1) :: st) := V.if_lt d ht (fun h => kt (by
    cases k with
    | zero => rfl
    | succ j => rw [nI_pred] at h; exact absurd h (nI_pos (by omega)))) (fun h => by
    cases k with
    | zero => exact absurd nI_m1neg h
    | succ j => exact kf j rfl)
theorem V.if_leD {a : Nat} {off : Int} {tgt : Nat} (d : decode cc pc = .ok (.ifCond .le off, 3)) (ht : (pc : Int) + off = (tgt : Int)) (ha : a < 2 ^ 31) (kt : a = 0 → V g cc nL own ret R Q κ M tgt L st) (kf : ∀ j, a = j + 1 → V g cc nL own ret R Q κ M (pc + 3) L st) : V g cc nL own ret R Q κ M pc L (.int (nI a) :: st) := V.if_leN d ht ha kt (fun h => kf (a - 1) (by omega))
theorem V.kkF {M2 : Mem} {r : Int32} (h : V g cc nL own ret R Q κ M2 pc L (.int r :: st)) : ∀ (v : Option Value) (M' : Mem), (v = some (.int r) ∧ M' = M2) → V g cc nL own ret R Q κ M' pc L (v.toList ++ st) := by
  rintro _ _ ⟨rfl, rfl⟩; exact h
theorem V.kkA {M2 : Mem} {a : Nat} (h : V g cc nL own ret R Q κ M2 pc L (.ref a :: st)) : ∀ (v : Option Value) (M' : Mem), (v = some (.ref a) ∧ M' = M2) → V g cc nL own ret R Q κ M' pc L (v.toList ++ st) := by
  rintro _ _ ⟨rfl, rfl⟩; exact h
theorem V.kkN {M2 : Mem} (h : V g cc nL own ret R Q κ M2 pc L st) : ∀ (v : Option Value) (M' : Mem), (v = none ∧ M' = M2) → V g cc nL own ret R Q κ M' pc L (v.toList ++ st) := by
  rintro _ _ ⟨rfl, rfl⟩; exact h
theorem V.kkP {P : Mem → Prop} (h : ∀ M', P M' → V g cc nL own ret R Q κ M' pc L st) : ∀ (v : Option Value) (M' : Mem), (v = none ∧ P M') → V g cc nL own ret R Q κ M' pc L (v.toList ++ st) := by
  rintro _ M' ⟨rfl, hp⟩; exact h M' hp
theorem V.kkI {P : Int32 → Mem → Prop} (h : ∀ r M', P r M' → V g cc nL own ret R Q κ M' pc L (.int r :: st)) : ∀ (v : Option Value) (M' : Mem), (∃ r, v = some (.int r) ∧ P r M') → V g cc nL own ret R Q κ M' pc L (v.toList ++ st) := by
  rintro _ M' ⟨r, rfl, hp⟩; exact h r M' hp
theorem V.kkB {P : Bool → Mem → Prop} (h : ∀ b M', P b M' → V g cc nL own ret R Q κ M' pc L (.int (if b then 1 else 0) :: st)) : ∀ (v : Option Value) (M' : Mem), (∃ b : Bool, v = some (.int (if b then 1 else 0)) ∧ P b M') → V g cc nL own ret R Q κ M' pc L (v.toList ++ st) := by
  rintro _ M' ⟨r, rfl, hp⟩; exact h r M' hp
end VN
theorem up_loop (N : Nat) (P : Nat → Prop) (h : ∀ j, j ≤ N → (j < N → P (j + 1)) → P j) : ∀ j, j ≤ N → P j := by
  have key : ∀ n j, j + n = N → P j := by
    intro n
    induction n with
    | zero => intro j hj; exact h j (by omega) (fun q => by omega)
    | succ n ih => intro j hj; exact h j (by omega) (fun _ => ih (j + 1) (by omega))
  intro j hj
  exact key (N - j) j (by omega)
theorem dn_loop (P : Nat → Prop) (h : ∀ k, (∀ j, k = j + 1 → P j) → P k) : ∀ k, P k := by
  intro k
  induction k with
  | zero => exact h 0 (fun j e => by omega)
  | succ k ih => exact h (k + 1) (fun j e => by have : j = k := by omega
                                                rw [this]; exact ih)
/-- the places from lo on, before hi, of array i are what f says -/
def aset (M : Mem) (i lo hi : Nat) (f : Nat → Int32) : Mem := fun a b => if a = i ∧ lo ≤ b ∧ b < hi then f b else M a b
theorem aset_nil {M : Mem} {i lo hi : Nat} {f : Nat → Int32} (h : hi ≤ lo) : aset M i lo hi f = M := by
  funext a b; unfold aset; rw [if_neg (by omega)]
theorem aset_up {M : Mem} {i lo hi : Nat} {f : Nat → Int32} {x : Int32} (h : lo ≤ hi) (hx : x = f hi) : mset (aset M i lo hi f) i hi x = aset M i lo (hi + 1) f := by
  funext a b; unfold aset mset
  by_cases ha : a = i
  · subst ha
    by_cases hb : b = hi
    · subst hb; simp [hx, h]
    · simp only [if_true, hb, if_false, true_and]
      by_cases h2 : lo ≤ b ∧ b < hi
      · rw [if_pos h2, if_pos (by omega)]
      · rw [if_neg h2, if_neg (by omega)]
  · simp [ha]
theorem aset_dn {M : Mem} {i lo hi : Nat} {f : Nat → Int32} {x : Int32} (h : lo < hi) (hx : x = f lo) : mset (aset M i (lo + 1) hi f) i lo x = aset M i lo hi f := by
  funext a b; unfold aset mset
  by_cases ha : a = i
  · subst ha
    by_cases hb : b = lo
    · subst hb; simp [hx, h]
    · simp only [if_true, hb, if_false, true_and]
      by_cases h2 : lo + 1 ≤ b ∧ b < hi
      · rw [if_pos h2, if_pos (by omega)]
      · rw [if_neg h2, if_neg (by omega)]
  · simp [ha]
theorem aset_ne {M : Mem} {i lo hi : Nat} {f : Nat → Int32} {a : Nat} (h : a ≠ i) : aset M i lo hi f a = M a := by
  funext b; unfold aset; rw [if_neg (by omega)]
theorem aset_in {M : Mem} {i lo hi : Nat} {f : Nat → Int32} {b : Nat} (h1 : lo ≤ b) (h2 : b < hi) : aset M i lo hi f i b = f b := by
  unfold aset; rw [if_pos ⟨rfl, h1, h2⟩]
theorem aset_out {M : Mem} {i lo hi : Nat} {f : Nat → Int32} {b : Nat} (h : b < lo ∨ hi ≤ b) : aset M i lo hi f i b = M i b := by
  unfold aset; rw [if_neg (by omega)]
theorem aset_congr {M : Mem} {i lo hi : Nat} {f f' : Nat → Int32} (h : ∀ b, lo ≤ b → b < hi → f b = f' b) : aset M i lo hi f = aset M i lo hi f' := by
  funext a b; unfold aset
  by_cases h2 : a = i ∧ lo ≤ b ∧ b < hi
  · rw [if_pos h2, if_pos h2, h b h2.2.1 h2.2.2]
  · rw [if_neg h2, if_neg h2]
theorem aset_aset {M : Mem} {i lo hi : Nat} {f f' : Nat → Int32} : aset (aset M i lo hi f) i lo hi f' = aset M i lo hi f' := by
  funext a b; unfold aset
  by_cases h2 : a = i ∧ lo ≤ b ∧ b < hi
  · rw [if_pos h2, if_pos h2]
  · rw [if_neg h2, if_neg h2, if_neg h2]
section VA
variable {g : Gl} {cc : ByteArray} {nL : Nat} {own : String} {ret : Option FieldType} {R : Room} {Q : State → Prop} {κ : Ka} {M : Mem} {pc : Nat} {L : List (Option Value)} {st : List Value}
theorem V.zast {j : Nat} {x : Int32} (d : decode cc pc = .ok (.bastore, 1)) (hi : 148 ∈ g.2.2.2.2) (hj : j < 2) (hx : vp_nar .boolean x = x) (kk : V g cc nL own ret R Q κ (mset M 148 j x) (pc + 1) L st) : V g cc nL own ret R Q κ M pc L (.int x :: .int (nI j) :: .ref (g.2.2.2.1 148) :: st) := fun E H locs ls w hl => by
  obtain ⟨k, hk0, hk⟩ := wd_at (M := M) hi
  have hc : (nI j).toNatClampNeg = j := nI_clamp (by omega)
  refine va_zast E.1 E.2.1 E.2.2.2.2.2.1 w.1 w.2.1 w.2.2 k 1 (n := 2) (f := M 148) (by rw [hk]; rfl) rfl (nI_in (by omega) (by omega)) d (fun H1 locs1 hP hD hS => ?_)
  have e := wd_set (M' := mset M 148 j x) (e := .inl (g.2.2.1 1, 2, .inl (upd (M 148) (nI j).toNatClampNeg (vp_nar .boolean x)))) w.2.1 hk0 (by show Sum.inl (g.2.2.1 1, 2, Sum.inl (mset M 148 j x 148)) = _; rw [mset_self, hc, hx]) (fun a ha => mset_ne ha)
  rw [e] at hP hD
  exact kk E H1 locs1 ls ⟨hP, hD, hS⟩ hl
/-- System.arraycopy of the first n places -/
theorem V.copy {i j n n0 n1 : Nat} (d : decode cc pc = .ok (.invokestatic 227, 3)) (ho : own = RX7) (hi : i ∈ g.2.2.2.2) (hj : j ∈ g.2.2.2.2) (li : ial i = n0) (lj : ial j = n1) (h0 : 0 < n) (h1 : n ≤ n0) (h2 : n ≤ n1) (hR : 1 ≤ R.frames ∧ 40 ≤ R.locals) (kk : V g cc nL own ret R Q κ (aset M j 0 n (M i)) (pc + 3) L []) : V g cc nL own ret R Q κ M pc L [.int (nI n), .int (nI 0), .ref (g.2.2.2.1 j), .int (nI 0), .ref (g.2.2.2.1 i)] := fun E H locs ls w hl => by
  obtain ⟨k, hk0, hk⟩ := wd_at (M := M) hi
  obtain ⟨k', hk0', hk'⟩ := wd_at (M := M) hj
  have hs := ial_small i
  have hs' := ial_small j
  have hc : (nI n).toNatClampNeg = n := nI_clamp (by omega)
  have hz : (nI 0).toNatClampNeg = 0 := rfl
  subst ho
  refine va_copyi E.1 E.2.1 (by rw [hl.1]; exact E.2.2.1) E.2.2.2.1 (E.2.2.2.2.1 _ lkX7_227) (E.2.2.2.2.1 _ na_arraycopy) (E.2.2.2.2.1 _ st_arraycopyName) (E.2.2.2.2.1 _ ini_J10) E.2.2.2.2.2.1 w.1 w.2.1 w.2.2 k k' 0 0 (n0 := n0) (n1 := n1) (f := M i) (g := M j) (ty := .int) (by rw [hk, cont_int li (by omega)]) (by rw [hk', cont_int lj (by omega)]) rfl rfl rfl (nI_pos (by omega)) (nI_pos (by omega)) (nI_pos (by omega)) (by rw [hc, hz]; omega) (by rw [hc, hz]; omega) (fun _ _ => rfl) hR.1 (Nat.le_trans (by decide) hR.2) d (fun H1 locs1 hP hD hS => ?_)
  have e := wd_set (M' := aset M j 0 n (M i)) (e := .inl (g.2.2.1 0, n1, .inl (va_cpy (M i) (M j) (nI 0).toNatClampNeg (nI 0).toNatClampNeg (nI n).toNatClampNeg))) w.2.1 hk0' (by
    rw [cont_int lj (by omega), hc, hz]
    congr 4
    funext b
    unfold aset va_cpy
    by_cases hb : b < n
    · rw [if_pos ⟨rfl, Nat.zero_le _, hb⟩, if_pos (by omega)]; congr 1; omega
    · rw [if_neg (by omega), if_neg (by omega)]) (fun a ha => aset_ne ha)
  rw [e] at hP hD
  exact kk E H1 locs1 ls ⟨hP, hD, hS⟩ hl
end VA
end
section
theorem hd_J9_min_7cf53 : yJ9_min_7cf53.cls ≠ "java/lang/invoke/MethodHandle" ∧ yJ9_min_7cf53.cls ≠ "java/lang/invoke/VarHandle" ∧ (parseMethodDescriptor yJ9_min_7cf53.desc).map (fun d => d.parameters.length) = some 2 := by decide +kernel
theorem hd_X0_degree : yX0_degree.cls ≠ "java/lang/invoke/MethodHandle" ∧ yX0_degree.cls ≠ "java/lang/invoke/VarHandle" ∧ (parseMethodDescriptor yX0_degree.desc).map (fun d => d.parameters.length) = some 0 := by decide +kernel
theorem hd_X0_forget : yX0_forget.cls ≠ "java/lang/invoke/MethodHandle" ∧ yX0_forget.cls ≠ "java/lang/invoke/VarHandle" ∧ (parseMethodDescriptor yX0_forget.desc).map (fun d => d.parameters.length) = some 0 := by decide +kernel
theorem hd_X0_hasTopPower : yX0_hasTopPower.cls ≠ "java/lang/invoke/MethodHandle" ∧ yX0_hasTopPower.cls ≠ "java/lang/invoke/VarHandle" ∧ (parseMethodDescriptor yX0_hasTopPower.desc).map (fun d => d.parameters.length) = some 0 := by decide +kernel
theorem hd_X0_init : yX0_init.cls ≠ "java/lang/invoke/MethodHandle" ∧ yX0_init.cls ≠ "java/lang/invoke/VarHandle" ∧ (parseMethodDescriptor yX0_init.desc).map (fun d => d.parameters.length) = some 0 := by decide +kernel
theorem hd_X0_remember : yX0_remember.cls ≠ "java/lang/invoke/MethodHandle" ∧ yX0_remember.cls ≠ "java/lang/invoke/VarHandle" ∧ (parseMethodDescriptor yX0_remember.desc).map (fun d => d.parameters.length) = some 0 := by decide +kernel
theorem hd_X0_restore : yX0_restore.cls ≠ "java/lang/invoke/MethodHandle" ∧ yX0_restore.cls ≠ "java/lang/invoke/VarHandle" ∧ (parseMethodDescriptor yX0_restore.desc).map (fun d => d.parameters.length) = some 0 := by decide +kernel
theorem hd_X0_size : yX0_size.cls ≠ "java/lang/invoke/MethodHandle" ∧ yX0_size.cls ≠ "java/lang/invoke/VarHandle" ∧ (parseMethodDescriptor yX0_size.desc).map (fun d => d.parameters.length) = some 0 := by decide +kernel
theorem hd_X1_init : yX1_init.cls ≠ "java/lang/invoke/MethodHandle" ∧ yX1_init.cls ≠ "java/lang/invoke/VarHandle" ∧ (parseMethodDescriptor yX1_init.desc).map (fun d => d.parameters.length) = some 0 := by decide +kernel
theorem hd_X2_add : yX2_add.cls ≠ "java/lang/invoke/MethodHandle" ∧ yX2_add.cls ≠ "java/lang/invoke/VarHandle" ∧ (parseMethodDescriptor yX2_add.desc).map (fun d => d.parameters.length) = some 2 := by decide +kernel
theorem hd_X2_holds : yX2_holds.cls ≠ "java/lang/invoke/MethodHandle" ∧ yX2_holds.cls ≠ "java/lang/invoke/VarHandle" ∧ (parseMethodDescriptor yX2_holds.desc).map (fun d => d.parameters.length) = some 1 := by decide +kernel
theorem hd_X2_inverse : yX2_inverse.cls ≠ "java/lang/invoke/MethodHandle" ∧ yX2_inverse.cls ≠ "java/lang/invoke/VarHandle" ∧ (parseMethodDescriptor yX2_inverse.desc).map (fun d => d.parameters.length) = some 1 := by decide +kernel
theorem hd_X2_multiply : yX2_multiply.cls ≠ "java/lang/invoke/MethodHandle" ∧ yX2_multiply.cls ≠ "java/lang/invoke/VarHandle" ∧ (parseMethodDescriptor yX2_multiply.desc).map (fun d => d.parameters.length) = some 2 := by decide +kernel
theorem hd_X2_subtract : yX2_subtract.cls ≠ "java/lang/invoke/MethodHandle" ∧ yX2_subtract.cls ≠ "java/lang/invoke/VarHandle" ∧ (parseMethodDescriptor yX2_subtract.desc).map (fun d => d.parameters.length) = some 2 := by decide +kernel
theorem hd_X3_goStep : yX3_goStep.cls ≠ "java/lang/invoke/MethodHandle" ∧ yX3_goStep.cls ≠ "java/lang/invoke/VarHandle" ∧ (parseMethodDescriptor yX3_goStep.desc).map (fun d => d.parameters.length) = some 2 := by decide +kernel
theorem hd_X3_init : yX3_init.cls ≠ "java/lang/invoke/MethodHandle" ∧ yX3_init.cls ≠ "java/lang/invoke/VarHandle" ∧ (parseMethodDescriptor yX3_init.desc).map (fun d => d.parameters.length) = some 1 := by decide +kernel
theorem hd_X3_isDelta : yX3_isDelta.cls ≠ "java/lang/invoke/MethodHandle" ∧ yX3_isDelta.cls ≠ "java/lang/invoke/VarHandle" ∧ (parseMethodDescriptor yX3_isDelta.desc).map (fun d => d.parameters.length) = some 1 := by decide +kernel
theorem hd_X3_isUnit : yX3_isUnit.cls ≠ "java/lang/invoke/MethodHandle" ∧ yX3_isUnit.cls ≠ "java/lang/invoke/VarHandle" ∧ (parseMethodDescriptor yX3_isUnit.desc).map (fun d => d.parameters.length) = some 1 := by decide +kernel
theorem hd_X3_joinTwo : yX3_joinTwo.cls ≠ "java/lang/invoke/MethodHandle" ∧ yX3_joinTwo.cls ≠ "java/lang/invoke/VarHandle" ∧ (parseMethodDescriptor yX3_joinTwo.desc).map (fun d => d.parameters.length) = some 1 := by decide +kernel
theorem hd_X3_pushMonomial : yX3_pushMonomial.cls ≠ "java/lang/invoke/MethodHandle" ∧ yX3_pushMonomial.cls ≠ "java/lang/invoke/VarHandle" ∧ (parseMethodDescriptor yX3_pushMonomial.desc).map (fun d => d.parameters.length) = some 2 := by decide +kernel
theorem hd_X3_reckon : yX3_reckon.cls ≠ "java/lang/invoke/MethodHandle" ∧ yX3_reckon.cls ≠ "java/lang/invoke/VarHandle" ∧ (parseMethodDescriptor yX3_reckon.desc).map (fun d => d.parameters.length) = some 1 := by decide +kernel
theorem hd_X3_seriesOf : yX3_seriesOf.cls ≠ "java/lang/invoke/MethodHandle" ∧ yX3_seriesOf.cls ≠ "java/lang/invoke/VarHandle" ∧ (parseMethodDescriptor yX3_seriesOf.desc).map (fun d => d.parameters.length) = some 1 := by decide +kernel
theorem hd_X3_toPower : yX3_toPower.cls ≠ "java/lang/invoke/MethodHandle" ∧ yX3_toPower.cls ≠ "java/lang/invoke/VarHandle" ∧ (parseMethodDescriptor yX3_toPower.desc).map (fun d => d.parameters.length) = some 2 := by decide +kernel
theorem hd_X3_toldF : yX3_toldF.cls ≠ "java/lang/invoke/MethodHandle" ∧ yX3_toldF.cls ≠ "java/lang/invoke/VarHandle" ∧ (parseMethodDescriptor yX3_toldF.desc).map (fun d => d.parameters.length) = some 0 := by decide +kernel
theorem hd_X3_toldG : yX3_toldG.cls ≠ "java/lang/invoke/MethodHandle" ∧ yX3_toldG.cls ≠ "java/lang/invoke/VarHandle" ∧ (parseMethodDescriptor yX3_toldG.desc).map (fun d => d.parameters.length) = some 0 := by decide +kernel
theorem hd_X3_turn : yX3_turn.cls ≠ "java/lang/invoke/MethodHandle" ∧ yX3_turn.cls ≠ "java/lang/invoke/VarHandle" ∧ (parseMethodDescriptor yX3_turn.desc).map (fun d => d.parameters.length) = some 2 := by decide +kernel
theorem hd_X4_divide : yX4_divide.cls ≠ "java/lang/invoke/MethodHandle" ∧ yX4_divide.cls ≠ "java/lang/invoke/VarHandle" ∧ (parseMethodDescriptor yX4_divide.desc).map (fun d => d.parameters.length) = some 3 := by decide +kernel
theorem hd_X4_exponentialOf : yX4_exponentialOf.cls ≠ "java/lang/invoke/MethodHandle" ∧ yX4_exponentialOf.cls ≠ "java/lang/invoke/VarHandle" ∧ (parseMethodDescriptor yX4_exponentialOf.desc).map (fun d => d.parameters.length) = some 2 := by decide +kernel
theorem hd_X4_init : yX4_init.cls ≠ "java/lang/invoke/MethodHandle" ∧ yX4_init.cls ≠ "java/lang/invoke/VarHandle" ∧ (parseMethodDescriptor yX4_init.desc).map (fun d => d.parameters.length) = some 0 := by decide +kernel
theorem hd_X4_lower : yX4_lower.cls ≠ "java/lang/invoke/MethodHandle" ∧ yX4_lower.cls ≠ "java/lang/invoke/VarHandle" ∧ (parseMethodDescriptor yX4_lower.desc).map (fun d => d.parameters.length) = some 1 := by decide +kernel
theorem hd_X4_multiply : yX4_multiply.cls ≠ "java/lang/invoke/MethodHandle" ∧ yX4_multiply.cls ≠ "java/lang/invoke/VarHandle" ∧ (parseMethodDescriptor yX4_multiply.desc).map (fun d => d.parameters.length) = some 3 := by decide +kernel
theorem hd_X4_overSeries : yX4_overSeries.cls ≠ "java/lang/invoke/MethodHandle" ∧ yX4_overSeries.cls ≠ "java/lang/invoke/VarHandle" ∧ (parseMethodDescriptor yX4_overSeries.desc).map (fun d => d.parameters.length) = some 2 := by decide +kernel
theorem hd_X4_putInside : yX4_putInside.cls ≠ "java/lang/invoke/MethodHandle" ∧ yX4_putInside.cls ≠ "java/lang/invoke/VarHandle" ∧ (parseMethodDescriptor yX4_putInside.desc).map (fun d => d.parameters.length) = some 3 := by decide +kernel
theorem hd_X4_takeBy : yX4_takeBy.cls ≠ "java/lang/invoke/MethodHandle" ∧ yX4_takeBy.cls ≠ "java/lang/invoke/VarHandle" ∧ (parseMethodDescriptor yX4_takeBy.desc).map (fun d => d.parameters.length) = some 2 := by decide +kernel
theorem hd_X4_tellPolynomials : yX4_tellPolynomials.cls ≠ "java/lang/invoke/MethodHandle" ∧ yX4_tellPolynomials.cls ≠ "java/lang/invoke/VarHandle" ∧ (parseMethodDescriptor yX4_tellPolynomials.desc).map (fun d => d.parameters.length) = some 3 := by decide +kernel
theorem hd_X4_turnInsideOut : yX4_turnInsideOut.cls ≠ "java/lang/invoke/MethodHandle" ∧ yX4_turnInsideOut.cls ≠ "java/lang/invoke/VarHandle" ∧ (parseMethodDescriptor yX4_turnInsideOut.desc).map (fun d => d.parameters.length) = some 2 := by decide +kernel
theorem hd_X4_untakeBy : yX4_untakeBy.cls ≠ "java/lang/invoke/MethodHandle" ∧ yX4_untakeBy.cls ≠ "java/lang/invoke/VarHandle" ∧ (parseMethodDescriptor yX4_untakeBy.desc).map (fun d => d.parameters.length) = some 2 := by decide +kernel
theorem hd_X5_become : yX5_become.cls ≠ "java/lang/invoke/MethodHandle" ∧ yX5_become.cls ≠ "java/lang/invoke/VarHandle" ∧ (parseMethodDescriptor yX5_become.desc).map (fun d => d.parameters.length) = some 2 := by decide +kernel
theorem hd_X5_chosen : yX5_chosen.cls ≠ "java/lang/invoke/MethodHandle" ∧ yX5_chosen.cls ≠ "java/lang/invoke/VarHandle" ∧ (parseMethodDescriptor yX5_chosen.desc).map (fun d => d.parameters.length) = some 1 := by decide +kernel
theorem hd_X5_gather : yX5_gather.cls ≠ "java/lang/invoke/MethodHandle" ∧ yX5_gather.cls ≠ "java/lang/invoke/VarHandle" ∧ (parseMethodDescriptor yX5_gather.desc).map (fun d => d.parameters.length) = some 2 := by decide +kernel
theorem hd_X5_init : yX5_init.cls ≠ "java/lang/invoke/MethodHandle" ∧ yX5_init.cls ≠ "java/lang/invoke/VarHandle" ∧ (parseMethodDescriptor yX5_init.desc).map (fun d => d.parameters.length) = some 1 := by decide +kernel
theorem hd_X5_reckonAll : yX5_reckonAll.cls ≠ "java/lang/invoke/MethodHandle" ∧ yX5_reckonAll.cls ≠ "java/lang/invoke/VarHandle" ∧ (parseMethodDescriptor yX5_reckonAll.desc).map (fun d => d.parameters.length) = some 0 := by decide +kernel
theorem hd_X5_secondPower : yX5_secondPower.cls ≠ "java/lang/invoke/MethodHandle" ∧ yX5_secondPower.cls ≠ "java/lang/invoke/VarHandle" ∧ (parseMethodDescriptor yX5_secondPower.desc).map (fun d => d.parameters.length) = some 0 := by decide +kernel
theorem hd_X5_tell : yX5_tell.cls ≠ "java/lang/invoke/MethodHandle" ∧ yX5_tell.cls ≠ "java/lang/invoke/VarHandle" ∧ (parseMethodDescriptor yX5_tell.desc).map (fun d => d.parameters.length) = some 2 := by decide +kernel
theorem hd_X6_addStep : yX6_addStep.cls ≠ "java/lang/invoke/MethodHandle" ∧ yX6_addStep.cls ≠ "java/lang/invoke/VarHandle" ∧ (parseMethodDescriptor yX6_addStep.desc).map (fun d => d.parameters.length) = some 2 := by decide +kernel
theorem hd_X6_amount : yX6_amount.cls ≠ "java/lang/invoke/MethodHandle" ∧ yX6_amount.cls ≠ "java/lang/invoke/VarHandle" ∧ (parseMethodDescriptor yX6_amount.desc).map (fun d => d.parameters.length) = some 0 := by decide +kernel
theorem hd_X6_append : yX6_append.cls ≠ "java/lang/invoke/MethodHandle" ∧ yX6_append.cls ≠ "java/lang/invoke/VarHandle" ∧ (parseMethodDescriptor yX6_append.desc).map (fun d => d.parameters.length) = some 1 := by decide +kernel
theorem hd_X6_clear : yX6_clear.cls ≠ "java/lang/invoke/MethodHandle" ∧ yX6_clear.cls ≠ "java/lang/invoke/VarHandle" ∧ (parseMethodDescriptor yX6_clear.desc).map (fun d => d.parameters.length) = some 0 := by decide +kernel
theorem hd_X6_firstFault : yX6_firstFault.cls ≠ "java/lang/invoke/MethodHandle" ∧ yX6_firstFault.cls ≠ "java/lang/invoke/VarHandle" ∧ (parseMethodDescriptor yX6_firstFault.desc).map (fun d => d.parameters.length) = some 0 := by decide +kernel
theorem hd_X6_init : yX6_init.cls ≠ "java/lang/invoke/MethodHandle" ∧ yX6_init.cls ≠ "java/lang/invoke/VarHandle" ∧ (parseMethodDescriptor yX6_init.desc).map (fun d => d.parameters.length) = some 0 := by decide +kernel
theorem hd_X6_isDigit : yX6_isDigit.cls ≠ "java/lang/invoke/MethodHandle" ∧ yX6_isDigit.cls ≠ "java/lang/invoke/VarHandle" ∧ (parseMethodDescriptor yX6_isDigit.desc).map (fun d => d.parameters.length) = some 1 := by decide +kernel
theorem hd_X6_isName : yX6_isName.cls ≠ "java/lang/invoke/MethodHandle" ∧ yX6_isName.cls ≠ "java/lang/invoke/VarHandle" ∧ (parseMethodDescriptor yX6_isName.desc).map (fun d => d.parameters.length) = some 1 := by decide +kernel
theorem hd_X6_isNumber : yX6_isNumber.cls ≠ "java/lang/invoke/MethodHandle" ∧ yX6_isNumber.cls ≠ "java/lang/invoke/VarHandle" ∧ (parseMethodDescriptor yX6_isNumber.desc).map (fun d => d.parameters.length) = some 0 := by decide +kernel
theorem hd_X6_standsPower : yX6_standsPower.cls ≠ "java/lang/invoke/MethodHandle" ∧ yX6_standsPower.cls ≠ "java/lang/invoke/VarHandle" ∧ (parseMethodDescriptor yX6_standsPower.desc).map (fun d => d.parameters.length) = some 1 := by decide +kernel
theorem hd_X6_standsProduct : yX6_standsProduct.cls ≠ "java/lang/invoke/MethodHandle" ∧ yX6_standsProduct.cls ≠ "java/lang/invoke/VarHandle" ∧ (parseMethodDescriptor yX6_standsProduct.desc).map (fun d => d.parameters.length) = some 1 := by decide +kernel
theorem hd_X6_standsSum : yX6_standsSum.cls ≠ "java/lang/invoke/MethodHandle" ∧ yX6_standsSum.cls ≠ "java/lang/invoke/VarHandle" ∧ (parseMethodDescriptor yX6_standsSum.desc).map (fun d => d.parameters.length) = some 1 := by decide +kernel
theorem hd_X6_standsThing : yX6_standsThing.cls ≠ "java/lang/invoke/MethodHandle" ∧ yX6_standsThing.cls ≠ "java/lang/invoke/VarHandle" ∧ (parseMethodDescriptor yX6_standsThing.desc).map (fun d => d.parameters.length) = some 1 := by decide +kernel
theorem hd_X6_toNextToken : yX6_toNextToken.cls ≠ "java/lang/invoke/MethodHandle" ∧ yX6_toNextToken.cls ≠ "java/lang/invoke/VarHandle" ∧ (parseMethodDescriptor yX6_toNextToken.desc).map (fun d => d.parameters.length) = some 0 := by decide +kernel
theorem hd_X7_act : yX7_act.cls ≠ "java/lang/invoke/MethodHandle" ∧ yX7_act.cls ≠ "java/lang/invoke/VarHandle" ∧ (parseMethodDescriptor yX7_act.desc).map (fun d => d.parameters.length) = some 2 := by decide +kernel
theorem hd_X7_addMultiple : yX7_addMultiple.cls ≠ "java/lang/invoke/MethodHandle" ∧ yX7_addMultiple.cls ≠ "java/lang/invoke/VarHandle" ∧ (parseMethodDescriptor yX7_addMultiple.desc).map (fun d => d.parameters.length) = some 3 := by decide +kernel
theorem hd_X7_areAlike : yX7_areAlike.cls ≠ "java/lang/invoke/MethodHandle" ∧ yX7_areAlike.cls ≠ "java/lang/invoke/VarHandle" ∧ (parseMethodDescriptor yX7_areAlike.desc).map (fun d => d.parameters.length) = some 2 := by decide +kernel
theorem hd_X7_at : yX7_at.cls ≠ "java/lang/invoke/MethodHandle" ∧ yX7_at.cls ≠ "java/lang/invoke/VarHandle" ∧ (parseMethodDescriptor yX7_at.desc).map (fun d => d.parameters.length) = some 1 := by decide +kernel
theorem hd_X7_back : yX7_back.cls ≠ "java/lang/invoke/MethodHandle" ∧ yX7_back.cls ≠ "java/lang/invoke/VarHandle" ∧ (parseMethodDescriptor yX7_back.desc).map (fun d => d.parameters.length) = some 1 := by decide +kernel
theorem hd_X7_climb : yX7_climb.cls ≠ "java/lang/invoke/MethodHandle" ∧ yX7_climb.cls ≠ "java/lang/invoke/VarHandle" ∧ (parseMethodDescriptor yX7_climb.desc).map (fun d => d.parameters.length) = some 1 := by decide +kernel
theorem hd_X7_compose : yX7_compose.cls ≠ "java/lang/invoke/MethodHandle" ∧ yX7_compose.cls ≠ "java/lang/invoke/VarHandle" ∧ (parseMethodDescriptor yX7_compose.desc).map (fun d => d.parameters.length) = some 3 := by decide +kernel
theorem hd_X7_connect : yX7_connect.cls ≠ "java/lang/invoke/MethodHandle" ∧ yX7_connect.cls ≠ "java/lang/invoke/VarHandle" ∧ (parseMethodDescriptor yX7_connect.desc).map (fun d => d.parameters.length) = some 4 := by decide +kernel
theorem hd_X7_copy : yX7_copy.cls ≠ "java/lang/invoke/MethodHandle" ∧ yX7_copy.cls ≠ "java/lang/invoke/VarHandle" ∧ (parseMethodDescriptor yX7_copy.desc).map (fun d => d.parameters.length) = some 2 := by decide +kernel
theorem hd_X7_count : yX7_count.cls ≠ "java/lang/invoke/MethodHandle" ∧ yX7_count.cls ≠ "java/lang/invoke/VarHandle" ∧ (parseMethodDescriptor yX7_count.desc).map (fun d => d.parameters.length) = some 1 := by decide +kernel
theorem hd_X7_differ : yX7_differ.cls ≠ "java/lang/invoke/MethodHandle" ∧ yX7_differ.cls ≠ "java/lang/invoke/VarHandle" ∧ (parseMethodDescriptor yX7_differ.desc).map (fun d => d.parameters.length) = some 2 := by decide +kernel
theorem hd_X7_erase : yX7_erase.cls ≠ "java/lang/invoke/MethodHandle" ∧ yX7_erase.cls ≠ "java/lang/invoke/VarHandle" ∧ (parseMethodDescriptor yX7_erase.desc).map (fun d => d.parameters.length) = some 0 := by decide +kernel
theorem hd_X7_expand : yX7_expand.cls ≠ "java/lang/invoke/MethodHandle" ∧ yX7_expand.cls ≠ "java/lang/invoke/VarHandle" ∧ (parseMethodDescriptor yX7_expand.desc).map (fun d => d.parameters.length) = some 2 := by decide +kernel
theorem hd_X7_fault : yX7_fault.cls ≠ "java/lang/invoke/MethodHandle" ∧ yX7_fault.cls ≠ "java/lang/invoke/VarHandle" ∧ (parseMethodDescriptor yX7_fault.desc).map (fun d => d.parameters.length) = some 0 := by decide +kernel
theorem hd_X7_hand : yX7_hand.cls ≠ "java/lang/invoke/MethodHandle" ∧ yX7_hand.cls ≠ "java/lang/invoke/VarHandle" ∧ (parseMethodDescriptor yX7_hand.desc).map (fun d => d.parameters.length) = some 1 := by decide +kernel
theorem hd_X7_init : yX7_init.cls ≠ "java/lang/invoke/MethodHandle" ∧ yX7_init.cls ≠ "java/lang/invoke/VarHandle" ∧ (parseMethodDescriptor yX7_init.desc).map (fun d => d.parameters.length) = some 0 := by decide +kernel
theorem hd_X7_invert : yX7_invert.cls ≠ "java/lang/invoke/MethodHandle" ∧ yX7_invert.cls ≠ "java/lang/invoke/VarHandle" ∧ (parseMethodDescriptor yX7_invert.desc).map (fun d => d.parameters.length) = some 2 := by decide +kernel
theorem hd_X7_isKeptPlace : yX7_isKeptPlace.cls ≠ "java/lang/invoke/MethodHandle" ∧ yX7_isKeptPlace.cls ≠ "java/lang/invoke/VarHandle" ∧ (parseMethodDescriptor yX7_isKeptPlace.desc).map (fun d => d.parameters.length) = some 1 := by decide +kernel
theorem hd_X7_isPower : yX7_isPower.cls ≠ "java/lang/invoke/MethodHandle" ∧ yX7_isPower.cls ≠ "java/lang/invoke/VarHandle" ∧ (parseMethodDescriptor yX7_isPower.desc).map (fun d => d.parameters.length) = some 1 := by decide +kernel
theorem hd_X7_isRow : yX7_isRow.cls ≠ "java/lang/invoke/MethodHandle" ∧ yX7_isRow.cls ≠ "java/lang/invoke/VarHandle" ∧ (parseMethodDescriptor yX7_isRow.desc).map (fun d => d.parameters.length) = some 1 := by decide +kernel
theorem hd_X7_keep : yX7_keep.cls ≠ "java/lang/invoke/MethodHandle" ∧ yX7_keep.cls ≠ "java/lang/invoke/VarHandle" ∧ (parseMethodDescriptor yX7_keep.desc).map (fun d => d.parameters.length) = some 1 := by decide +kernel
theorem hd_X7_move : yX7_move.cls ≠ "java/lang/invoke/MethodHandle" ∧ yX7_move.cls ≠ "java/lang/invoke/VarHandle" ∧ (parseMethodDescriptor yX7_move.desc).map (fun d => d.parameters.length) = some 3 := by decide +kernel
theorem hd_X7_moveUp : yX7_moveUp.cls ≠ "java/lang/invoke/MethodHandle" ∧ yX7_moveUp.cls ≠ "java/lang/invoke/VarHandle" ∧ (parseMethodDescriptor yX7_moveUp.desc).map (fun d => d.parameters.length) = some 1 := by decide +kernel
theorem hd_X7_part : yX7_part.cls ≠ "java/lang/invoke/MethodHandle" ∧ yX7_part.cls ≠ "java/lang/invoke/VarHandle" ∧ (parseMethodDescriptor yX7_part.desc).map (fun d => d.parameters.length) = some 3 := by decide +kernel
theorem hd_X7_plus : yX7_plus.cls ≠ "java/lang/invoke/MethodHandle" ∧ yX7_plus.cls ≠ "java/lang/invoke/VarHandle" ∧ (parseMethodDescriptor yX7_plus.desc).map (fun d => d.parameters.length) = some 3 := by decide +kernel
theorem hd_X7_polynomial : yX7_polynomial.cls ≠ "java/lang/invoke/MethodHandle" ∧ yX7_polynomial.cls ≠ "java/lang/invoke/VarHandle" ∧ (parseMethodDescriptor yX7_polynomial.desc).map (fun d => d.parameters.length) = some 3 := by decide +kernel
theorem hd_X7_put : yX7_put.cls ≠ "java/lang/invoke/MethodHandle" ∧ yX7_put.cls ≠ "java/lang/invoke/VarHandle" ∧ (parseMethodDescriptor yX7_put.desc).map (fun d => d.parameters.length) = some 2 := by decide +kernel
theorem hd_X7_raise : yX7_raise.cls ≠ "java/lang/invoke/MethodHandle" ∧ yX7_raise.cls ≠ "java/lang/invoke/VarHandle" ∧ (parseMethodDescriptor yX7_raise.desc).map (fun d => d.parameters.length) = some 1 := by decide +kernel
theorem hd_X7_read : yX7_read.cls ≠ "java/lang/invoke/MethodHandle" ∧ yX7_read.cls ≠ "java/lang/invoke/VarHandle" ∧ (parseMethodDescriptor yX7_read.desc).map (fun d => d.parameters.length) = some 1 := by decide +kernel
theorem hd_X7_series : yX7_series.cls ≠ "java/lang/invoke/MethodHandle" ∧ yX7_series.cls ≠ "java/lang/invoke/VarHandle" ∧ (parseMethodDescriptor yX7_series.desc).map (fun d => d.parameters.length) = some 3 := by decide +kernel
theorem hd_X7_setMonomial : yX7_setMonomial.cls ≠ "java/lang/invoke/MethodHandle" ∧ yX7_setMonomial.cls ≠ "java/lang/invoke/VarHandle" ∧ (parseMethodDescriptor yX7_setMonomial.desc).map (fun d => d.parameters.length) = some 3 := by decide +kernel
theorem hd_X7_shift : yX7_shift.cls ≠ "java/lang/invoke/MethodHandle" ∧ yX7_shift.cls ≠ "java/lang/invoke/VarHandle" ∧ (parseMethodDescriptor yX7_shift.desc).map (fun d => d.parameters.length) = some 1 := by decide +kernel
theorem hd_X7_stretch : yX7_stretch.cls ≠ "java/lang/invoke/MethodHandle" ∧ yX7_stretch.cls ≠ "java/lang/invoke/VarHandle" ∧ (parseMethodDescriptor yX7_stretch.desc).map (fun d => d.parameters.length) = some 3 := by decide +kernel
theorem hd_X7_sum : yX7_sum.cls ≠ "java/lang/invoke/MethodHandle" ∧ yX7_sum.cls ≠ "java/lang/invoke/VarHandle" ∧ (parseMethodDescriptor yX7_sum.desc).map (fun d => d.parameters.length) = some 1 := by decide +kernel
theorem hd_X7_swap : yX7_swap.cls ≠ "java/lang/invoke/MethodHandle" ∧ yX7_swap.cls ≠ "java/lang/invoke/VarHandle" ∧ (parseMethodDescriptor yX7_swap.desc).map (fun d => d.parameters.length) = some 2 := by decide +kernel
theorem hd_X7_take : yX7_take.cls ≠ "java/lang/invoke/MethodHandle" ∧ yX7_take.cls ≠ "java/lang/invoke/VarHandle" ∧ (parseMethodDescriptor yX7_take.desc).map (fun d => d.parameters.length) = some 2 := by decide +kernel
theorem hd_X7_times : yX7_times.cls ≠ "java/lang/invoke/MethodHandle" ∧ yX7_times.cls ≠ "java/lang/invoke/VarHandle" ∧ (parseMethodDescriptor yX7_times.desc).map (fun d => d.parameters.length) = some 0 := by decide +kernel
theorem hd_X7_undo : yX7_undo.cls ≠ "java/lang/invoke/MethodHandle" ∧ yX7_undo.cls ≠ "java/lang/invoke/VarHandle" ∧ (parseMethodDescriptor yX7_undo.desc).map (fun d => d.parameters.length) = some 0 := by decide +kernel
theorem hd_X7_value : yX7_value.cls ≠ "java/lang/invoke/MethodHandle" ∧ yX7_value.cls ≠ "java/lang/invoke/VarHandle" ∧ (parseMethodDescriptor yX7_value.desc).map (fun d => d.parameters.length) = some 3 := by decide +kernel
theorem hd_X7_valueAt : yX7_valueAt.cls ≠ "java/lang/invoke/MethodHandle" ∧ yX7_valueAt.cls ≠ "java/lang/invoke/VarHandle" ∧ (parseMethodDescriptor yX7_valueAt.desc).map (fun d => d.parameters.length) = some 2 := by decide +kernel
theorem hd_X7_weigh : yX7_weigh.cls ≠ "java/lang/invoke/MethodHandle" ∧ yX7_weigh.cls ≠ "java/lang/invoke/VarHandle" ∧ (parseMethodDescriptor yX7_weigh.desc).map (fun d => d.parameters.length) = some 1 := by decide +kernel
theorem hd_X7_write : yX7_write.cls ≠ "java/lang/invoke/MethodHandle" ∧ yX7_write.cls ≠ "java/lang/invoke/VarHandle" ∧ (parseMethodDescriptor yX7_write.desc).map (fun d => d.parameters.length) = some 1 := by decide +kernel
theorem hd_X8_act : yX8_act.cls ≠ "java/lang/invoke/MethodHandle" ∧ yX8_act.cls ≠ "java/lang/invoke/VarHandle" ∧ (parseMethodDescriptor yX8_act.desc).map (fun d => d.parameters.length) = some 2 := by decide +kernel
theorem hd_X8_at : yX8_at.cls ≠ "java/lang/invoke/MethodHandle" ∧ yX8_at.cls ≠ "java/lang/invoke/VarHandle" ∧ (parseMethodDescriptor yX8_at.desc).map (fun d => d.parameters.length) = some 1 := by decide +kernel
theorem hd_X8_back : yX8_back.cls ≠ "java/lang/invoke/MethodHandle" ∧ yX8_back.cls ≠ "java/lang/invoke/VarHandle" ∧ (parseMethodDescriptor yX8_back.desc).map (fun d => d.parameters.length) = some 1 := by decide +kernel
theorem hd_X8_becomes : yX8_becomes.cls ≠ "java/lang/invoke/MethodHandle" ∧ yX8_becomes.cls ≠ "java/lang/invoke/VarHandle" ∧ (parseMethodDescriptor yX8_becomes.desc).map (fun d => d.parameters.length) = some 3 := by decide +kernel
theorem hd_X8_begins : yX8_begins.cls ≠ "java/lang/invoke/MethodHandle" ∧ yX8_begins.cls ≠ "java/lang/invoke/VarHandle" ∧ (parseMethodDescriptor yX8_begins.desc).map (fun d => d.parameters.length) = some 1 := by decide +kernel
theorem hd_X8_bring : yX8_bring.cls ≠ "java/lang/invoke/MethodHandle" ∧ yX8_bring.cls ≠ "java/lang/invoke/VarHandle" ∧ (parseMethodDescriptor yX8_bring.desc).map (fun d => d.parameters.length) = some 5 := by decide +kernel
theorem hd_X8_clears : yX8_clears.cls ≠ "java/lang/invoke/MethodHandle" ∧ yX8_clears.cls ≠ "java/lang/invoke/VarHandle" ∧ (parseMethodDescriptor yX8_clears.desc).map (fun d => d.parameters.length) = some 0 := by decide +kernel
theorem hd_X8_climb : yX8_climb.cls ≠ "java/lang/invoke/MethodHandle" ∧ yX8_climb.cls ≠ "java/lang/invoke/VarHandle" ∧ (parseMethodDescriptor yX8_climb.desc).map (fun d => d.parameters.length) = some 1 := by decide +kernel
theorem hd_X8_closes : yX8_closes.cls ≠ "java/lang/invoke/MethodHandle" ∧ yX8_closes.cls ≠ "java/lang/invoke/VarHandle" ∧ (parseMethodDescriptor yX8_closes.desc).map (fun d => d.parameters.length) = some 0 := by decide +kernel
theorem hd_X8_compose : yX8_compose.cls ≠ "java/lang/invoke/MethodHandle" ∧ yX8_compose.cls ≠ "java/lang/invoke/VarHandle" ∧ (parseMethodDescriptor yX8_compose.desc).map (fun d => d.parameters.length) = some 3 := by decide +kernel
theorem hd_X8_connect : yX8_connect.cls ≠ "java/lang/invoke/MethodHandle" ∧ yX8_connect.cls ≠ "java/lang/invoke/VarHandle" ∧ (parseMethodDescriptor yX8_connect.desc).map (fun d => d.parameters.length) = some 4 := by decide +kernel
theorem hd_X8_copiesRow : yX8_copiesRow.cls ≠ "java/lang/invoke/MethodHandle" ∧ yX8_copiesRow.cls ≠ "java/lang/invoke/VarHandle" ∧ (parseMethodDescriptor yX8_copiesRow.desc).map (fun d => d.parameters.length) = some 1 := by decide +kernel
theorem hd_X8_count : yX8_count.cls ≠ "java/lang/invoke/MethodHandle" ∧ yX8_count.cls ≠ "java/lang/invoke/VarHandle" ∧ (parseMethodDescriptor yX8_count.desc).map (fun d => d.parameters.length) = some 1 := by decide +kernel
theorem hd_X8_degree : yX8_degree.cls ≠ "java/lang/invoke/MethodHandle" ∧ yX8_degree.cls ≠ "java/lang/invoke/VarHandle" ∧ (parseMethodDescriptor yX8_degree.desc).map (fun d => d.parameters.length) = some 0 := by decide +kernel
theorem hd_X8_differ : yX8_differ.cls ≠ "java/lang/invoke/MethodHandle" ∧ yX8_differ.cls ≠ "java/lang/invoke/VarHandle" ∧ (parseMethodDescriptor yX8_differ.desc).map (fun d => d.parameters.length) = some 2 := by decide +kernel
theorem hd_X8_divides : yX8_divides.cls ≠ "java/lang/invoke/MethodHandle" ∧ yX8_divides.cls ≠ "java/lang/invoke/VarHandle" ∧ (parseMethodDescriptor yX8_divides.desc).map (fun d => d.parameters.length) = some 5 := by decide +kernel
theorem hd_X8_endsPower : yX8_endsPower.cls ≠ "java/lang/invoke/MethodHandle" ∧ yX8_endsPower.cls ≠ "java/lang/invoke/VarHandle" ∧ (parseMethodDescriptor yX8_endsPower.desc).map (fun d => d.parameters.length) = some 0 := by decide +kernel
theorem hd_X8_endsProduct : yX8_endsProduct.cls ≠ "java/lang/invoke/MethodHandle" ∧ yX8_endsProduct.cls ≠ "java/lang/invoke/VarHandle" ∧ (parseMethodDescriptor yX8_endsProduct.desc).map (fun d => d.parameters.length) = some 0 := by decide +kernel
theorem hd_X8_erase : yX8_erase.cls ≠ "java/lang/invoke/MethodHandle" ∧ yX8_erase.cls ≠ "java/lang/invoke/VarHandle" ∧ (parseMethodDescriptor yX8_erase.desc).map (fun d => d.parameters.length) = some 0 := by decide +kernel
theorem hd_X8_expand : yX8_expand.cls ≠ "java/lang/invoke/MethodHandle" ∧ yX8_expand.cls ≠ "java/lang/invoke/VarHandle" ∧ (parseMethodDescriptor yX8_expand.desc).map (fun d => d.parameters.length) = some 2 := by decide +kernel
theorem hd_X8_falls : yX8_falls.cls ≠ "java/lang/invoke/MethodHandle" ∧ yX8_falls.cls ≠ "java/lang/invoke/VarHandle" ∧ (parseMethodDescriptor yX8_falls.desc).map (fun d => d.parameters.length) = some 2 := by decide +kernel
theorem hd_X8_fault : yX8_fault.cls ≠ "java/lang/invoke/MethodHandle" ∧ yX8_fault.cls ≠ "java/lang/invoke/VarHandle" ∧ (parseMethodDescriptor yX8_fault.desc).map (fun d => d.parameters.length) = some 0 := by decide +kernel
theorem hd_X8_figures : yX8_figures.cls ≠ "java/lang/invoke/MethodHandle" ∧ yX8_figures.cls ≠ "java/lang/invoke/VarHandle" ∧ (parseMethodDescriptor yX8_figures.desc).map (fun d => d.parameters.length) = some 0 := by decide +kernel
theorem hd_X8_hand : yX8_hand.cls ≠ "java/lang/invoke/MethodHandle" ∧ yX8_hand.cls ≠ "java/lang/invoke/VarHandle" ∧ (parseMethodDescriptor yX8_hand.desc).map (fun d => d.parameters.length) = some 1 := by decide +kernel
theorem hd_X8_in : yX8_in.cls ≠ "java/lang/invoke/MethodHandle" ∧ yX8_in.cls ≠ "java/lang/invoke/VarHandle" ∧ (parseMethodDescriptor yX8_in.desc).map (fun d => d.parameters.length) = some 3 := by decide +kernel
theorem hd_X8_init : yX8_init.cls ≠ "java/lang/invoke/MethodHandle" ∧ yX8_init.cls ≠ "java/lang/invoke/VarHandle" ∧ (parseMethodDescriptor yX8_init.desc).map (fun d => d.parameters.length) = some 0 := by decide +kernel
theorem hd_X8_invert : yX8_invert.cls ≠ "java/lang/invoke/MethodHandle" ∧ yX8_invert.cls ≠ "java/lang/invoke/VarHandle" ∧ (parseMethodDescriptor yX8_invert.desc).map (fun d => d.parameters.length) = some 2 := by decide +kernel
theorem hd_X8_isDelta : yX8_isDelta.cls ≠ "java/lang/invoke/MethodHandle" ∧ yX8_isDelta.cls ≠ "java/lang/invoke/VarHandle" ∧ (parseMethodDescriptor yX8_isDelta.desc).map (fun d => d.parameters.length) = some 2 := by decide +kernel
theorem hd_X8_isDigit : yX8_isDigit.cls ≠ "java/lang/invoke/MethodHandle" ∧ yX8_isDigit.cls ≠ "java/lang/invoke/VarHandle" ∧ (parseMethodDescriptor yX8_isDigit.desc).map (fun d => d.parameters.length) = some 1 := by decide +kernel
theorem hd_X8_isFlat : yX8_isFlat.cls ≠ "java/lang/invoke/MethodHandle" ∧ yX8_isFlat.cls ≠ "java/lang/invoke/VarHandle" ∧ (parseMethodDescriptor yX8_isFlat.desc).map (fun d => d.parameters.length) = some 2 := by decide +kernel
theorem hd_X8_isLetter : yX8_isLetter.cls ≠ "java/lang/invoke/MethodHandle" ∧ yX8_isLetter.cls ≠ "java/lang/invoke/VarHandle" ∧ (parseMethodDescriptor yX8_isLetter.desc).map (fun d => d.parameters.length) = some 1 := by decide +kernel
theorem hd_X8_isNumber : yX8_isNumber.cls ≠ "java/lang/invoke/MethodHandle" ∧ yX8_isNumber.cls ≠ "java/lang/invoke/VarHandle" ∧ (parseMethodDescriptor yX8_isNumber.desc).map (fun d => d.parameters.length) = some 1 := by decide +kernel
theorem hd_X8_isPlace : yX8_isPlace.cls ≠ "java/lang/invoke/MethodHandle" ∧ yX8_isPlace.cls ≠ "java/lang/invoke/VarHandle" ∧ (parseMethodDescriptor yX8_isPlace.desc).map (fun d => d.parameters.length) = some 1 := by decide +kernel
theorem hd_X8_isRow : yX8_isRow.cls ≠ "java/lang/invoke/MethodHandle" ∧ yX8_isRow.cls ≠ "java/lang/invoke/VarHandle" ∧ (parseMethodDescriptor yX8_isRow.desc).map (fun d => d.parameters.length) = some 1 := by decide +kernel
theorem hd_X8_joins : yX8_joins.cls ≠ "java/lang/invoke/MethodHandle" ∧ yX8_joins.cls ≠ "java/lang/invoke/VarHandle" ∧ (parseMethodDescriptor yX8_joins.desc).map (fun d => d.parameters.length) = some 2 := by decide +kernel
theorem hd_X8_keep : yX8_keep.cls ≠ "java/lang/invoke/MethodHandle" ∧ yX8_keep.cls ≠ "java/lang/invoke/VarHandle" ∧ (parseMethodDescriptor yX8_keep.desc).map (fun d => d.parameters.length) = some 1 := by decide +kernel
theorem hd_X8_laysOne : yX8_laysOne.cls ≠ "java/lang/invoke/MethodHandle" ∧ yX8_laysOne.cls ≠ "java/lang/invoke/VarHandle" ∧ (parseMethodDescriptor yX8_laysOne.desc).map (fun d => d.parameters.length) = some 0 := by decide +kernel
theorem hd_X8_laysRow : yX8_laysRow.cls ≠ "java/lang/invoke/MethodHandle" ∧ yX8_laysRow.cls ≠ "java/lang/invoke/VarHandle" ∧ (parseMethodDescriptor yX8_laysRow.desc).map (fun d => d.parameters.length) = some 2 := by decide +kernel
theorem hd_X8_leastOf : yX8_leastOf.cls ≠ "java/lang/invoke/MethodHandle" ∧ yX8_leastOf.cls ≠ "java/lang/invoke/VarHandle" ∧ (parseMethodDescriptor yX8_leastOf.desc).map (fun d => d.parameters.length) = some 1 := by decide +kernel
theorem hd_X8_less : yX8_less.cls ≠ "java/lang/invoke/MethodHandle" ∧ yX8_less.cls ≠ "java/lang/invoke/VarHandle" ∧ (parseMethodDescriptor yX8_less.desc).map (fun d => d.parameters.length) = some 2 := by decide +kernel
theorem hd_X8_makes : yX8_makes.cls ≠ "java/lang/invoke/MethodHandle" ∧ yX8_makes.cls ≠ "java/lang/invoke/VarHandle" ∧ (parseMethodDescriptor yX8_makes.desc).map (fun d => d.parameters.length) = some 2 := by decide +kernel
theorem hd_X8_many : yX8_many.cls ≠ "java/lang/invoke/MethodHandle" ∧ yX8_many.cls ≠ "java/lang/invoke/VarHandle" ∧ (parseMethodDescriptor yX8_many.desc).map (fun d => d.parameters.length) = some 0 := by decide +kernel
theorem hd_X8_move : yX8_move.cls ≠ "java/lang/invoke/MethodHandle" ∧ yX8_move.cls ≠ "java/lang/invoke/VarHandle" ∧ (parseMethodDescriptor yX8_move.desc).map (fun d => d.parameters.length) = some 3 := by decide +kernel
theorem hd_X8_multiplies : yX8_multiplies.cls ≠ "java/lang/invoke/MethodHandle" ∧ yX8_multiplies.cls ≠ "java/lang/invoke/VarHandle" ∧ (parseMethodDescriptor yX8_multiplies.desc).map (fun d => d.parameters.length) = some 5 := by decide +kernel
theorem hd_X8_notes : yX8_notes.cls ≠ "java/lang/invoke/MethodHandle" ∧ yX8_notes.cls ≠ "java/lang/invoke/VarHandle" ∧ (parseMethodDescriptor yX8_notes.desc).map (fun d => d.parameters.length) = some 0 := by decide +kernel
theorem hd_X8_numberOf : yX8_numberOf.cls ≠ "java/lang/invoke/MethodHandle" ∧ yX8_numberOf.cls ≠ "java/lang/invoke/VarHandle" ∧ (parseMethodDescriptor yX8_numberOf.desc).map (fun d => d.parameters.length) = some 1 := by decide +kernel
theorem hd_X8_over : yX8_over.cls ≠ "java/lang/invoke/MethodHandle" ∧ yX8_over.cls ≠ "java/lang/invoke/VarHandle" ∧ (parseMethodDescriptor yX8_over.desc).map (fun d => d.parameters.length) = some 1 := by decide +kernel
theorem hd_X8_part : yX8_part.cls ≠ "java/lang/invoke/MethodHandle" ∧ yX8_part.cls ≠ "java/lang/invoke/VarHandle" ∧ (parseMethodDescriptor yX8_part.desc).map (fun d => d.parameters.length) = some 3 := by decide +kernel
theorem hd_X8_plus : yX8_plus.cls ≠ "java/lang/invoke/MethodHandle" ∧ yX8_plus.cls ≠ "java/lang/invoke/VarHandle" ∧ (parseMethodDescriptor yX8_plus.desc).map (fun d => d.parameters.length) = some 3 := by decide +kernel
theorem hd_X8_polynomial : yX8_polynomial.cls ≠ "java/lang/invoke/MethodHandle" ∧ yX8_polynomial.cls ≠ "java/lang/invoke/VarHandle" ∧ (parseMethodDescriptor yX8_polynomial.desc).map (fun d => d.parameters.length) = some 3 := by decide +kernel
theorem hd_X8_product : yX8_product.cls ≠ "java/lang/invoke/MethodHandle" ∧ yX8_product.cls ≠ "java/lang/invoke/VarHandle" ∧ (parseMethodDescriptor yX8_product.desc).map (fun d => d.parameters.length) = some 2 := by decide +kernel
theorem hd_X8_put : yX8_put.cls ≠ "java/lang/invoke/MethodHandle" ∧ yX8_put.cls ≠ "java/lang/invoke/VarHandle" ∧ (parseMethodDescriptor yX8_put.desc).map (fun d => d.parameters.length) = some 2 := by decide +kernel
theorem hd_X8_puts : yX8_puts.cls ≠ "java/lang/invoke/MethodHandle" ∧ yX8_puts.cls ≠ "java/lang/invoke/VarHandle" ∧ (parseMethodDescriptor yX8_puts.desc).map (fun d => d.parameters.length) = some 5 := by decide +kernel
theorem hd_X8_raise : yX8_raise.cls ≠ "java/lang/invoke/MethodHandle" ∧ yX8_raise.cls ≠ "java/lang/invoke/VarHandle" ∧ (parseMethodDescriptor yX8_raise.desc).map (fun d => d.parameters.length) = some 1 := by decide +kernel
theorem hd_X8_raisesThing : yX8_raisesThing.cls ≠ "java/lang/invoke/MethodHandle" ∧ yX8_raisesThing.cls ≠ "java/lang/invoke/VarHandle" ∧ (parseMethodDescriptor yX8_raisesThing.desc).map (fun d => d.parameters.length) = some 1 := by decide +kernel
theorem hd_X8_read : yX8_read.cls ≠ "java/lang/invoke/MethodHandle" ∧ yX8_read.cls ≠ "java/lang/invoke/VarHandle" ∧ (parseMethodDescriptor yX8_read.desc).map (fun d => d.parameters.length) = some 1 := by decide +kernel
theorem hd_X8_reads : yX8_reads.cls ≠ "java/lang/invoke/MethodHandle" ∧ yX8_reads.cls ≠ "java/lang/invoke/VarHandle" ∧ (parseMethodDescriptor yX8_reads.desc).map (fun d => d.parameters.length) = some 0 := by decide +kernel
theorem hd_X8_readsBracket : yX8_readsBracket.cls ≠ "java/lang/invoke/MethodHandle" ∧ yX8_readsBracket.cls ≠ "java/lang/invoke/VarHandle" ∧ (parseMethodDescriptor yX8_readsBracket.desc).map (fun d => d.parameters.length) = some 1 := by decide +kernel
theorem hd_X8_readsOn : yX8_readsOn.cls ≠ "java/lang/invoke/MethodHandle" ∧ yX8_readsOn.cls ≠ "java/lang/invoke/VarHandle" ∧ (parseMethodDescriptor yX8_readsOn.desc).map (fun d => d.parameters.length) = some 2 := by decide +kernel
theorem hd_X8_readsSum : yX8_readsSum.cls ≠ "java/lang/invoke/MethodHandle" ∧ yX8_readsSum.cls ≠ "java/lang/invoke/VarHandle" ∧ (parseMethodDescriptor yX8_readsSum.desc).map (fun d => d.parameters.length) = some 0 := by decide +kernel
theorem hd_X8_readsThing : yX8_readsThing.cls ≠ "java/lang/invoke/MethodHandle" ∧ yX8_readsThing.cls ≠ "java/lang/invoke/VarHandle" ∧ (parseMethodDescriptor yX8_readsThing.desc).map (fun d => d.parameters.length) = some 1 := by decide +kernel
theorem hd_X8_readsTimes : yX8_readsTimes.cls ≠ "java/lang/invoke/MethodHandle" ∧ yX8_readsTimes.cls ≠ "java/lang/invoke/VarHandle" ∧ (parseMethodDescriptor yX8_readsTimes.desc).map (fun d => d.parameters.length) = some 1 := by decide +kernel
theorem hd_X8_series : yX8_series.cls ≠ "java/lang/invoke/MethodHandle" ∧ yX8_series.cls ≠ "java/lang/invoke/VarHandle" ∧ (parseMethodDescriptor yX8_series.desc).map (fun d => d.parameters.length) = some 3 := by decide +kernel
theorem hd_X8_sets : yX8_sets.cls ≠ "java/lang/invoke/MethodHandle" ∧ yX8_sets.cls ≠ "java/lang/invoke/VarHandle" ∧ (parseMethodDescriptor yX8_sets.desc).map (fun d => d.parameters.length) = some 2 := by decide +kernel
theorem hd_X8_shift : yX8_shift.cls ≠ "java/lang/invoke/MethodHandle" ∧ yX8_shift.cls ≠ "java/lang/invoke/VarHandle" ∧ (parseMethodDescriptor yX8_shift.desc).map (fun d => d.parameters.length) = some 1 := by decide +kernel
theorem hd_X8_sign : yX8_sign.cls ≠ "java/lang/invoke/MethodHandle" ∧ yX8_sign.cls ≠ "java/lang/invoke/VarHandle" ∧ (parseMethodDescriptor yX8_sign.desc).map (fun d => d.parameters.length) = some 0 := by decide +kernel
theorem hd_X8_sofarOne : yX8_sofarOne.cls ≠ "java/lang/invoke/MethodHandle" ∧ yX8_sofarOne.cls ≠ "java/lang/invoke/VarHandle" ∧ (parseMethodDescriptor yX8_sofarOne.desc).map (fun d => d.parameters.length) = some 0 := by decide +kernel
theorem hd_X8_solves : yX8_solves.cls ≠ "java/lang/invoke/MethodHandle" ∧ yX8_solves.cls ≠ "java/lang/invoke/VarHandle" ∧ (parseMethodDescriptor yX8_solves.desc).map (fun d => d.parameters.length) = some 3 := by decide +kernel
theorem hd_X8_stretch : yX8_stretch.cls ≠ "java/lang/invoke/MethodHandle" ∧ yX8_stretch.cls ≠ "java/lang/invoke/VarHandle" ∧ (parseMethodDescriptor yX8_stretch.desc).map (fun d => d.parameters.length) = some 3 := by decide +kernel
theorem hd_X8_sum : yX8_sum.cls ≠ "java/lang/invoke/MethodHandle" ∧ yX8_sum.cls ≠ "java/lang/invoke/VarHandle" ∧ (parseMethodDescriptor yX8_sum.desc).map (fun d => d.parameters.length) = some 1 := by decide +kernel
theorem hd_X8_swap : yX8_swap.cls ≠ "java/lang/invoke/MethodHandle" ∧ yX8_swap.cls ≠ "java/lang/invoke/VarHandle" ∧ (parseMethodDescriptor yX8_swap.desc).map (fun d => d.parameters.length) = some 2 := by decide +kernel
theorem hd_X8_take : yX8_take.cls ≠ "java/lang/invoke/MethodHandle" ∧ yX8_take.cls ≠ "java/lang/invoke/VarHandle" ∧ (parseMethodDescriptor yX8_take.desc).map (fun d => d.parameters.length) = some 2 := by decide +kernel
theorem hd_X8_takesApart : yX8_takesApart.cls ≠ "java/lang/invoke/MethodHandle" ∧ yX8_takesApart.cls ≠ "java/lang/invoke/VarHandle" ∧ (parseMethodDescriptor yX8_takesApart.desc).map (fun d => d.parameters.length) = some 3 := by decide +kernel
theorem hd_X8_times : yX8_times.cls ≠ "java/lang/invoke/MethodHandle" ∧ yX8_times.cls ≠ "java/lang/invoke/VarHandle" ∧ (parseMethodDescriptor yX8_times.desc).map (fun d => d.parameters.length) = some 0 := by decide +kernel
theorem hd_X8_toMade : yX8_toMade.cls ≠ "java/lang/invoke/MethodHandle" ∧ yX8_toMade.cls ≠ "java/lang/invoke/VarHandle" ∧ (parseMethodDescriptor yX8_toMade.desc).map (fun d => d.parameters.length) = some 2 := by decide +kernel
theorem hd_X8_together : yX8_together.cls ≠ "java/lang/invoke/MethodHandle" ∧ yX8_together.cls ≠ "java/lang/invoke/VarHandle" ∧ (parseMethodDescriptor yX8_together.desc).map (fun d => d.parameters.length) = some 2 := by decide +kernel
theorem hd_X8_turns : yX8_turns.cls ≠ "java/lang/invoke/MethodHandle" ∧ yX8_turns.cls ≠ "java/lang/invoke/VarHandle" ∧ (parseMethodDescriptor yX8_turns.desc).map (fun d => d.parameters.length) = some 3 := by decide +kernel
theorem hd_X8_undo : yX8_undo.cls ≠ "java/lang/invoke/MethodHandle" ∧ yX8_undo.cls ≠ "java/lang/invoke/VarHandle" ∧ (parseMethodDescriptor yX8_undo.desc).map (fun d => d.parameters.length) = some 0 := by decide +kernel
theorem hd_X8_value : yX8_value.cls ≠ "java/lang/invoke/MethodHandle" ∧ yX8_value.cls ≠ "java/lang/invoke/VarHandle" ∧ (parseMethodDescriptor yX8_value.desc).map (fun d => d.parameters.length) = some 3 := by decide +kernel
theorem hd_X8_valueOf : yX8_valueOf.cls ≠ "java/lang/invoke/MethodHandle" ∧ yX8_valueOf.cls ≠ "java/lang/invoke/VarHandle" ∧ (parseMethodDescriptor yX8_valueOf.desc).map (fun d => d.parameters.length) = some 3 := by decide +kernel
theorem hd_X8_weigh : yX8_weigh.cls ≠ "java/lang/invoke/MethodHandle" ∧ yX8_weigh.cls ≠ "java/lang/invoke/VarHandle" ∧ (parseMethodDescriptor yX8_weigh.desc).map (fun d => d.parameters.length) = some 1 := by decide +kernel
theorem hd_X8_write : yX8_write.cls ≠ "java/lang/invoke/MethodHandle" ∧ yX8_write.cls ≠ "java/lang/invoke/VarHandle" ∧ (parseMethodDescriptor yX8_write.desc).map (fun d => d.parameters.length) = some 1 := by decide +kernel
end
section
/-! ===== what the two classes' own arithmetic does to ints, as it stands ===== -/
def rem9 (x : Int32) : Int32 := x - x / nI 9973 * nI 9973
def fadd (a b : Int32) : Int32 := rem9 (a + b)
def fsub (a b : Int32) : Int32 := rem9 (a - b + nI 9973)
def fmul (a b : Int32) : Int32 := rem9 (a * b)
def pwl : Nat → Nat → Int32 → Int32 → Int32
  | 0, _, r, _ => r
  | f + 1, e, r, s => if e = 0 then r else pwl f (e / 2) (if e % 2 = 1 then fmul r s else r) (fmul s s)
def finv (b : Int32) : Int32 := pwl 14 9971 (nI 1) b
/-- x is a whole number less than n -/
def isN (x : Int32) (n : Nat) : Bool := decide (¬ x < 0) && decide (x < nI n)
theorem isN_yes {x : Int32} {n : Nat} (hn : n < 2 ^ 31) (h : isN x n = true) : ∃ j, j < n ∧ x = nI j := by
  simp only [isN, Bool.and_eq_true, decide_eq_true_eq] at h
  rcases pk_ix x hn with h1 | h1 | h1
  · exact absurd h1 h.1
  · exact absurd h.2 (by rw [Int32.not_lt]; exact h1)
  · exact h1
theorem isN_nI {j n : Nat} (hn : n < 2 ^ 31) (h : j < n) : isN (nI j) n = true := by
  simp only [isN, Bool.and_eq_true, decide_eq_true_eq]
  exact ⟨nI_pos (by omega), nI_lt h hn⟩
theorem isN_no {x : Int32} {n : Nat} (hn : n < 2 ^ 31) (h : isN x n = false) : ∀ j, j < n → x ≠ nI j := by
  intro j hj e
  rw [e, isN_nI hn hj] at h
  cases h
theorem isN_0 {x : Int32} {n : Nat} (h : x < 0) : isN x n = false := by simp [isN, h]
theorem isN_1 {x : Int32} {n : Nat} (h : nI n ≤ x) : isN x n = false := by
  have : ¬ x < nI n := by rw [Int32.not_lt]; exact h
  simp [isN, this]
theorem isN_2 {x : Int32} {n : Nat} (h : ¬ x < 0) (h2 : ¬ nI n ≤ x) : isN x n = true := by
  have : x < nI n := by rw [← Int32.not_le]; exact h2
  simp [isN, h, this]
/-- one power alone -/
def mono (k : Nat) (a : Int32) : Nat → Int32 := fun j => if j = k then a else nI 0
/-- p at x, the highest power first: the powers from k on have been taken in -/
def horn (p : Nat → Int32) (x : Int32) : Nat → Int32
  | 0 => nI 0
  | n + 1 => fadd (fmul (horn p x n) x) (p (8 - n))
/-- the first j of the products that make place n -/
def cvl (a b : Nat → Int32) (n : Nat) : Nat → Int32
  | 0 => nI 0
  | j + 1 => fadd (cvl a b n j) (fmul (a j) (b (n - j)))
/-- a product of two series -/
def fprod (a b : Nat → Int32) : Nat → Int32 := fun n => cvl a b n (n + 1)
/-- numbers added, each times c -/
def fax (p a : Nat → Int32) (c : Int32) : Nat → Int32 := fun k => fadd (p k) (fmul (a k) c)
def fup (a : Nat → Int32) : Nat → Int32 := fun k => if k = 0 then nI 0 else a (k - 1)
end
section
/-! ===== Numbers, and the class's own static methods ===== -/
abbrev v_X2_add (g : Gl) (κ : Ka) (Q : State → Prop) (M : Mem) (pc : Nat) (L : List (Option Value)) (st : List Value) : Prop := V g cX2_add 2 yX2_add.cls (some .int) (rmd 0) Q κ M pc L st
theorem c_X2_add {g : Gl} {M : Mem} {x z : Int32} : Ct g yX2_add cX2_add 2 (some .int) 0 [.int x, .int z] M (fun v M' => v = some (.int (fadd x z)) ∧ M' = M) := by
  refine Ct.ofV (by decide) (Nat.le_of_ble_eq_true rfl) (by simp [Value.category]) (fun κ => ?_)
  refine V.iload_n dX2_add_0 rfl ?_
  refine V.iload_n dX2_add_1 rfl ?_
  refine V.iadd dX2_add_2 ?_
  refine V.sipush (v := nI 9973) dX2_add_3 (by decide) ?_
  first | refine V.iremN dX2_add_6 (by omega) (by omega) (by omega) ?_ | refine V.irem dX2_add_6 (by decide) ?_
  refine V.iret dX2_add_7 ?_
  exact ⟨rfl, rfl⟩
theorem c_X2_subtract {g : Gl} {M : Mem} {x z : Int32} : Ct g yX2_subtract cX2_subtract 2 (some .int) 0 [.int x, .int z] M (fun v M' => v = some (.int (fsub x z)) ∧ M' = M) := by
  refine Ct.ofV (by decide) (Nat.le_of_ble_eq_true rfl) (by simp [Value.category]) (fun κ => ?_)
  refine V.iload_n dX2_subtract_0 rfl ?_
  refine V.iload_n dX2_subtract_1 rfl ?_
  refine V.isub dX2_subtract_2 ?_
  refine V.sipush (v := nI 9973) dX2_subtract_3 (by decide) ?_
  refine V.iadd dX2_subtract_6 ?_
  refine V.sipush (v := nI 9973) dX2_subtract_7 (by decide) ?_
  first | refine V.iremN dX2_subtract_10 (by omega) (by omega) (by omega) ?_ | refine V.irem dX2_subtract_10 (by decide) ?_
  refine V.iret dX2_subtract_11 ?_
  exact ⟨rfl, rfl⟩
theorem c_X2_multiply {g : Gl} {M : Mem} {x z : Int32} : Ct g yX2_multiply cX2_multiply 2 (some .int) 0 [.int x, .int z] M (fun v M' => v = some (.int (fmul x z)) ∧ M' = M) := by
  refine Ct.ofV (by decide) (Nat.le_of_ble_eq_true rfl) (by simp [Value.category]) (fun κ => ?_)
  refine V.iload_n dX2_multiply_0 rfl ?_
  refine V.iload_n dX2_multiply_1 rfl ?_
  refine V.imul dX2_multiply_2 ?_
  refine V.sipush (v := nI 9973) dX2_multiply_3 (by decide) ?_
  first | refine V.iremN dX2_multiply_6 (by omega) (by omega) (by omega) ?_ | refine V.irem dX2_multiply_6 (by decide) ?_
  refine V.iret dX2_multiply_7 ?_
  exact ⟨rfl, rfl⟩
theorem c_X2_holds {g : Gl} {M : Mem} {x : Int32} : Ct g yX2_holds cX2_holds 1 (some .boolean) 0 [.int x] M (fun v M' => v = some (.int (nI (isN x 9973).toNat)) ∧ M' = M) := by
  refine Ct.ofV (by decide) (Nat.le_of_ble_eq_true rfl) (by simp [Value.category]) (fun κ => ?_)
  refine V.iload_n dX2_holds_0 rfl ?_
  refine V.if_lt (tgt := 15) dX2_holds_1 (by decide) (fun h1 => ?_) (fun h1 => ?_)
  · refine V.iconst (v := nI 0) dX2_holds_15 rfl ?_
    refine V.zret dX2_holds_16 rfl ?_
    exact ⟨by rw [isN_0 h1]; rfl, rfl⟩
  · refine V.iload_n dX2_holds_4 rfl ?_
    refine V.sipush (v := nI 9973) dX2_holds_5 (by decide) ?_
    refine V.icmp_ge (tgt := 15) dX2_holds_8 (by decide) (fun h2 => ?_) (fun h2 => ?_)
    · refine V.iconst (v := nI 0) dX2_holds_15 rfl ?_
      refine V.zret dX2_holds_16 rfl ?_
      exact ⟨by rw [isN_1 h2]; rfl, rfl⟩
    · refine V.iconst (v := nI 1) dX2_holds_11 rfl ?_
      refine V.goto (tgt := 16) dX2_holds_12 (by decide) ?_
      refine V.zret dX2_holds_16 rfl ?_
      exact ⟨by rw [isN_2 h1 h2]; rfl, rfl⟩
theorem c_X7_isRow {g : Gl} {M : Mem} {x : Int32} : Ct g yX7_isRow cX7_isRow 1 (some .boolean) 0 [.int x] M (fun v M' => v = some (.int (nI (isN x 4).toNat)) ∧ M' = M) := by
  refine Ct.ofV (by decide) (Nat.le_of_ble_eq_true rfl) (by simp [Value.category]) (fun κ => ?_)
  refine V.iload_n dX7_isRow_0 rfl ?_
  refine V.if_lt (tgt := 13) dX7_isRow_1 (by decide) (fun h1 => ?_) (fun h1 => ?_)
  · refine V.iconst (v := nI 0) dX7_isRow_13 rfl ?_
    refine V.zret dX7_isRow_14 rfl ?_
    exact ⟨by rw [isN_0 h1]; rfl, rfl⟩
  · refine V.iload_n dX7_isRow_4 rfl ?_
    refine V.iconst (v := nI 4) dX7_isRow_5 rfl ?_
    refine V.icmp_ge (tgt := 13) dX7_isRow_6 (by decide) (fun h2 => ?_) (fun h2 => ?_)
    · refine V.iconst (v := nI 0) dX7_isRow_13 rfl ?_
      refine V.zret dX7_isRow_14 rfl ?_
      exact ⟨by rw [isN_1 h2]; rfl, rfl⟩
    · refine V.iconst (v := nI 1) dX7_isRow_9 rfl ?_
      refine V.goto (tgt := 14) dX7_isRow_10 (by decide) ?_
      refine V.zret dX7_isRow_14 rfl ?_
      exact ⟨by rw [isN_2 h1 h2]; rfl, rfl⟩
theorem c_X7_copy {g : Gl} {M : Mem} {i j : Nat} (hi : i ∈ g.2.2.2.2) (hj : j ∈ g.2.2.2.2) (li : ial i = 9) (lj : ial j = 9) : Ct g yX7_copy cX7_copy 2 none 1 [.ref (g.2.2.2.1 i), .ref (g.2.2.2.1 j)] M (fun v M' => v = none ∧ M' = aset M j 0 9 (M i)) := by
  refine Ct.ofV (by decide) (Nat.le_of_ble_eq_true rfl) (by simp [Value.category]) (fun κ => ?_)
  refine V.aload_n dX7_copy_0 rfl ?_
  refine V.iconst (v := nI 0) dX7_copy_1 rfl ?_
  refine V.aload_n dX7_copy_2 rfl ?_
  refine V.iconst (v := nI 0) dX7_copy_3 rfl ?_
  refine V.bipush (v := nI 9) dX7_copy_4 (by decide) ?_
  refine V.copy dX7_copy_6 rfl hi hj li lj (by decide) (by decide) (by decide) ⟨Nat.le_of_ble_eq_true rfl, Nat.le_of_ble_eq_true rfl⟩ ?_
  refine V.vret dX7_copy_9 ?_
  exact ⟨rfl, rfl⟩
abbrev v_X7_setMonomial (g : Gl) (κ : Ka) (Q : State → Prop) (M : Mem) (pc : Nat) (L : List (Option Value)) (st : List Value) : Prop := V g cX7_setMonomial 4 yX7_setMonomial.cls none (rmd 0) Q κ M pc L st
theorem c_X7_setMonomial {g : Gl} {M : Mem} {i k : Nat} {a : Int32} (hi : i ∈ g.2.2.2.2) (li : ial i = 9) (hk : k < 9) : Ct g yX7_setMonomial cX7_setMonomial 4 none 0 [.ref (g.2.2.2.1 i), .int (nI k), .int a] M (fun v M' => v = none ∧ M' = aset M i 0 9 (mono k a)) := by
  refine Ct.ofV (by decide) (Nat.le_of_ble_eq_true rfl) (by simp [Value.category]) (fun κ => ?_)
  refine V.iconst (v := nI 0) dX7_setMonomial_0 rfl ?_
  refine V.istore_n dX7_setMonomial_1 (by decide) ?_
  have lp := up_loop 9 (fun j => v_X7_setMonomial g κ (Qm g κ (fun v M' => v = none ∧ M' = aset M i 0 9 (mono k a))) (aset M i 0 j (mono k a)) 2 [some (.ref (g.2.2.2.1 i)), some (.int (nI k)), some (.int a), some (.int (nI j))] []) (fun j hj ih => ?_) 0 (by omega)
  · rw [aset_nil (Nat.le_refl 0)] at lp
    exact lp
  · refine V.iload_n dX7_setMonomial_2 rfl ?_
    refine V.bipush (v := nI 9) dX7_setMonomial_3 (by decide) ?_
    refine V.geN (tgt := 27) dX7_setMonomial_5 (by decide) (by omega) (by omega) (fun h1 => ?_) (fun h1 => ?_)
    · refine V.vret dX7_setMonomial_27 ?_
      have e : j = 9 := by omega
      subst e
      exact ⟨rfl, rfl⟩
    · refine V.aload_n dX7_setMonomial_8 rfl ?_
      refine V.iload_n dX7_setMonomial_9 rfl ?_
      refine V.iload_n dX7_setMonomial_10 rfl ?_
      refine V.iload_n dX7_setMonomial_11 rfl ?_
      refine V.neN (tgt := 19) dX7_setMonomial_12 (by decide) (by omega) (by omega) (fun h2 => ?_) (fun h2 => ?_)
      · refine V.iconst (v := nI 0) dX7_setMonomial_19 rfl ?_
        refine V.iast (n := 9) dX7_setMonomial_20 (by first | assumption | exact hI _ (by omega)) (by first | assumption | decide) (by omega) ?_
        refine V.iincN dX7_setMonomial_21 (by decide) rfl ?_
        refine V.goto (tgt := 2) dX7_setMonomial_24 (by decide) ?_
        rw [aset_up (Nat.zero_le _) (by simp [mono, h2])]
        exact ih (by omega)
      · refine V.iload_n dX7_setMonomial_15 rfl ?_
        refine V.goto (tgt := 20) dX7_setMonomial_16 (by decide) ?_
        refine V.iast (n := 9) dX7_setMonomial_20 (by first | assumption | exact hI _ (by omega)) (by first | assumption | decide) (by omega) ?_
        refine V.iincN dX7_setMonomial_21 (by decide) rfl ?_
        refine V.goto (tgt := 2) dX7_setMonomial_24 (by decide) ?_
        rw [aset_up (Nat.zero_le _) (by simp [mono, h2])]
        exact ih (by omega)
abbrev v_X7_addMultiple (g : Gl) (κ : Ka) (Q : State → Prop) (M : Mem) (pc : Nat) (L : List (Option Value)) (st : List Value) : Prop := V g cX7_addMultiple 4 yX7_addMultiple.cls none (rmd 1) Q κ M pc L st
theorem c_X7_addMultiple {g : Gl} {M : Mem} {i k : Nat} {c : Int32} (hi : i ∈ g.2.2.2.2) (li : ial i = 9) (hk : k ∈ g.2.2.2.2) (lk : ial k = 9) (hne : i ≠ k) : Ct g yX7_addMultiple cX7_addMultiple 4 none 1 [.ref (g.2.2.2.1 i), .ref (g.2.2.2.1 k), .int c] M (fun v M' => v = none ∧ M' = aset M i 0 9 (fax (M i) (M k) c)) := by
  refine Ct.ofV (by decide) (Nat.le_of_ble_eq_true rfl) (by simp [Value.category]) (fun κ => ?_)
  refine V.iconst (v := nI 0) dX7_addMultiple_0 rfl ?_
  refine V.istore_n dX7_addMultiple_1 (by decide) ?_
  have lp := up_loop 9 (fun j => v_X7_addMultiple g κ (Qm g κ (fun v M' => v = none ∧ M' = aset M i 0 9 (fax (M i) (M k) c))) (aset M i 0 j (fax (M i) (M k) c)) 2 [some (.ref (g.2.2.2.1 i)), some (.ref (g.2.2.2.1 k)), some (.int c), some (.int (nI j))] []) (fun j hj ih => ?_) 0 (by omega)
  · rw [aset_nil (Nat.le_refl 0)] at lp
    exact lp
  · refine V.iload_n dX7_addMultiple_2 rfl ?_
    refine V.bipush (v := nI 9) dX7_addMultiple_3 (by decide) ?_
    refine V.geN (tgt := 30) dX7_addMultiple_5 (by decide) (by omega) (by omega) (fun h1 => ?_) (fun h1 => ?_)
    · refine V.vret dX7_addMultiple_30 ?_
      have e : j = 9 := by omega
      subst e
      exact ⟨rfl, rfl⟩
    · refine V.aload_n dX7_addMultiple_8 rfl ?_
      refine V.iload_n dX7_addMultiple_9 rfl ?_
      refine V.aload_n dX7_addMultiple_10 rfl ?_
      refine V.iload_n dX7_addMultiple_11 rfl ?_
      refine V.iald (n := 9) dX7_addMultiple_12 (by first | assumption | exact hI _ (by omega)) (by first | assumption | decide) (by omega) ?_
      refine V.aload_n dX7_addMultiple_13 rfl ?_
      refine V.iload_n dX7_addMultiple_14 rfl ?_
      refine V.iald (n := 9) dX7_addMultiple_15 (by first | assumption | exact hI _ (by omega)) (by first | assumption | decide) (by omega) ?_
      refine V.iload_n dX7_addMultiple_16 rfl ?_
      refine V.callS dX7_addMultiple_17 (c_X2_multiply) lkX7_192 st_X2_multiply cd_X2_multiply ini_X2 hd_X2_multiply ⟨Nat.le_of_ble_eq_true rfl, Nat.le_of_ble_eq_true rfl⟩ rfl (Nat.le_of_ble_eq_true rfl) (V.kkF ?_)
      refine V.callS dX7_addMultiple_20 (c_X2_add) lkX7_200 st_X2_add cd_X2_add ini_X2 hd_X2_add ⟨Nat.le_of_ble_eq_true rfl, Nat.le_of_ble_eq_true rfl⟩ rfl (Nat.le_of_ble_eq_true rfl) (V.kkF ?_)
      refine V.iast (n := 9) dX7_addMultiple_23 (by first | assumption | exact hI _ (by omega)) (by first | assumption | decide) (by omega) ?_
      refine V.iincN dX7_addMultiple_24 (by decide) rfl ?_
      refine V.goto (tgt := 2) dX7_addMultiple_27 (by decide) ?_
      rw [aset_up (Nat.zero_le _) (by rw [aset_out (Or.inr (Nat.le_refl _)), aset_ne (Ne.symm hne)]; rfl)]
      exact ih (by omega)
abbrev v_X7_moveUp (g : Gl) (κ : Ka) (Q : State → Prop) (M : Mem) (pc : Nat) (L : List (Option Value)) (st : List Value) : Prop := V g cX7_moveUp 2 yX7_moveUp.cls none (rmd 0) Q κ M pc L st
theorem c_X7_moveUp {g : Gl} {M : Mem} {i : Nat} (hi : i ∈ g.2.2.2.2) (li : ial i = 9) : Ct g yX7_moveUp cX7_moveUp 2 none 0 [.ref (g.2.2.2.1 i)] M (fun v M' => v = none ∧ M' = aset M i 0 9 (fup (M i))) := by
  refine Ct.ofV (by decide) (Nat.le_of_ble_eq_true rfl) (by simp [Value.category]) (fun κ => ?_)
  refine V.bipush (v := nI 8) dX7_moveUp_0 (by decide) ?_
  refine V.istore_n dX7_moveUp_2 (by decide) ?_
  have lp := dn_loop (fun k => k ≤ 8 → v_X7_moveUp g κ (Qm g κ (fun v M' => v = none ∧ M' = aset M i 0 9 (fup (M i)))) (aset M i (k + 1) 9 (fup (M i))) 3 [some (.ref (g.2.2.2.1 i)), some (.int (nI k))] []) (fun k ih hk => ?_) 8 (by omega)
  · rw [aset_nil (Nat.le_refl 9)] at lp
    exact lp
  · refine V.iload_n dX7_moveUp_3 rfl ?_
    refine V.if_leD (tgt := 21) dX7_moveUp_4 (by decide) (by omega) (fun h1 => ?_) (fun j h1 => ?_)
    · subst h1
      refine V.aload_n dX7_moveUp_21 rfl ?_
      refine V.iconst (v := nI 0) dX7_moveUp_22 rfl ?_
      refine V.iconst (v := nI 0) dX7_moveUp_23 rfl ?_
      refine V.iast (n := 9) dX7_moveUp_24 (by first | assumption | exact hI _ (by omega)) (by first | assumption | decide) (by omega) ?_
      refine V.vret dX7_moveUp_25 ?_
      exact ⟨rfl, aset_dn (by decide) rfl⟩
    · subst h1
      refine V.aload_n dX7_moveUp_7 rfl ?_
      refine V.iload_n dX7_moveUp_8 rfl ?_
      refine V.aload_n dX7_moveUp_9 rfl ?_
      refine V.iload_n dX7_moveUp_10 rfl ?_
      refine V.iconst (v := nI 1) dX7_moveUp_11 rfl ?_
      first | refine V.isubN dX7_moveUp_12 (by omega) ?_ | refine V.isub dX7_moveUp_12 ?_
      refine V.iald (n := 9) dX7_moveUp_13 (by first | assumption | exact hI _ (by omega)) (by first | assumption | decide) (by omega) ?_
      refine V.iast (n := 9) dX7_moveUp_14 (by first | assumption | exact hI _ (by omega)) (by first | assumption | decide) (by omega) ?_
      refine V.iincD dX7_moveUp_15 (by decide) rfl ?_
      refine V.goto (tgt := 3) dX7_moveUp_18 (by decide) ?_
      rw [nI_pred, aset_dn (by omega) (by rw [aset_out (Or.inl (by omega))]; simp [fup])]
      exact ih j rfl (by omega)
abbrev v_X7_valueAt (g : Gl) (κ : Ka) (Q : State → Prop) (M : Mem) (pc : Nat) (L : List (Option Value)) (st : List Value) : Prop := V g cX7_valueAt 4 yX7_valueAt.cls (some .int) (rmd 1) Q κ M pc L st
theorem c_X7_valueAt {g : Gl} {M : Mem} {i : Nat} {x : Int32} (hi : i ∈ g.2.2.2.2) (li : ial i = 9) : Ct g yX7_valueAt cX7_valueAt 4 (some .int) 1 [.ref (g.2.2.2.1 i), .int x] M (fun v M' => v = some (.int (horn (M i) x 9)) ∧ M' = M) := by
  refine Ct.ofV (by decide) (Nat.le_of_ble_eq_true rfl) (by simp [Value.category]) (fun κ => ?_)
  refine V.iconst (v := nI 0) dX7_valueAt_0 rfl ?_
  refine V.istore_n dX7_valueAt_1 (by decide) ?_
  refine V.bipush (v := nI 8) dX7_valueAt_2 (by decide) ?_
  refine V.istore_n dX7_valueAt_4 (by decide) ?_
  have lp := dn_loop (fun k => k ≤ 9 → v_X7_valueAt g κ (Qm g κ (fun v M' => v = some (.int (horn (M i) x 9)) ∧ M' = M)) M 5 [some (.ref (g.2.2.2.1 i)), some (.int x), some (.int (horn (M i) x (9 - k))), some (.int (nI k - 1))] []) (fun k ih hk => ?_) 9 (by omega)
  · exact lp
  · refine V.iload_n dX7_valueAt_5 rfl ?_
    refine V.if_ltD (tgt := 27) dX7_valueAt_6 (by decide) (by omega) (fun h1 => ?_) (fun j h1 => ?_)
    · subst h1
      refine V.iload_n dX7_valueAt_27 rfl ?_
      refine V.iret dX7_valueAt_28 ?_
      exact ⟨rfl, rfl⟩
    · subst h1
      rw [nI_pred]
      refine V.iload_n dX7_valueAt_9 rfl ?_
      refine V.iload_n dX7_valueAt_10 rfl ?_
      refine V.callS dX7_valueAt_11 (c_X2_multiply) lkX7_192 st_X2_multiply cd_X2_multiply ini_X2 hd_X2_multiply ⟨Nat.le_of_ble_eq_true rfl, Nat.le_of_ble_eq_true rfl⟩ rfl (Nat.le_of_ble_eq_true rfl) (V.kkF ?_)
      refine V.aload_n dX7_valueAt_14 rfl ?_
      refine V.iload_n dX7_valueAt_15 rfl ?_
      refine V.iald (n := 9) dX7_valueAt_16 (by first | assumption | exact hI _ (by omega)) (by first | assumption | decide) (by omega) ?_
      refine V.callS dX7_valueAt_17 (c_X2_add) lkX7_200 st_X2_add cd_X2_add ini_X2 hd_X2_add ⟨Nat.le_of_ble_eq_true rfl, Nat.le_of_ble_eq_true rfl⟩ rfl (Nat.le_of_ble_eq_true rfl) (V.kkF ?_)
      refine V.istore_n dX7_valueAt_20 (by decide) ?_
      refine V.iincD dX7_valueAt_21 (by decide) rfl ?_
      refine V.goto (tgt := 5) dX7_valueAt_24 (by decide) ?_
      have e := ih j rfl (by omega)
      rw [show 9 - j = (9 - (j + 1)) + 1 by omega] at e
      simp only [horn] at e
      rw [show 8 - (9 - (j + 1)) = j by omega] at e
      exact e
end
section
theorem aset_lo {M : Mem} {i lo hi a b : Nat} {f : Nat → Int32} (h : b < lo) : aset M i lo hi f a b = M a b := by
  unfold aset; rw [if_neg (by omega)]
theorem aset_hi {M : Mem} {i lo hi a b : Nat} {f : Nat → Int32} (h : hi ≤ b) : aset M i lo hi f a b = M a b := by
  unfold aset; rw [if_neg (by omega)]
/-- alike in the first nine places -/
def eq9 (f h : Nat → Int32) : Prop := ∀ k, k < 9 → f k = h k
theorem eq9.rf {f : Nat → Int32} : eq9 f f := fun _ _ => rfl
theorem eq9.tr {f h j : Nat → Int32} (a : eq9 f h) (b : eq9 h j) : eq9 f j := fun k hk => (a k hk).trans (b k hk)
theorem eq9.sy {f h : Nat → Int32} (a : eq9 f h) : eq9 h f := fun k hk => (a k hk).symm
theorem aset_9 {M : Mem} {i : Nat} {f : Nat → Int32} : eq9 (aset M i 0 9 f i) f := fun _ hk => aset_in (Nat.zero_le _) hk
theorem aset_cg9 {M : Mem} {i : Nat} {f h : Nat → Int32} (e : eq9 f h) : aset M i 0 9 f = aset M i 0 9 h := aset_congr (fun b _ hb => e b hb)
theorem cvl_cg {a a' b b' : Nat → Int32} {n : Nat} (ha : ∀ k, k ≤ n → a k = a' k) (hb : ∀ k, k ≤ n → b k = b' k) : ∀ j, j ≤ n + 1 → cvl a b n j = cvl a' b' n j
  | 0, _ => rfl
  | j + 1, h => by simp only [cvl]; rw [cvl_cg ha hb j (by omega), ha j (by omega), hb (n - j) (by omega)]
theorem fprod_cg {a a' b b' : Nat → Int32} (ha : eq9 a a') (hb : eq9 b b') : eq9 (fprod a b) (fprod a' b') := fun n hn => cvl_cg (fun k hk => ha k (by omega)) (fun k hk => hb k (by omega)) (n + 1) (Nat.le_refl _)
/-- a quotient: place n out of those before it -/
def dl (r h m : Nat → Int32) (n : Nat) : Nat → Int32
  | 0 => h n
  | j + 1 => fsub (dl r h m n j) (fmul (m (j + 1)) (r (n - (j + 1))))
def dvs (h m : Nat → Int32) (c : Int32) : Nat → Nat → Int32
  | 0 => fun _ => nI 0
  | n + 1 => fun k => if k = n then fmul (dl (dvs h m c n) h m n n) c else dvs h m c n k
def fdiv (h m : Nat → Int32) : Nat → Int32 := fun k => dvs h m (finv (m 0)) (k + 1) k
theorem dvs_st (h m : Nat → Int32) (c : Int32) (k : Nat) : ∀ n, k < n → dvs h m c n k = dvs h m c (k + 1) k
  | 0, hk => by omega
  | n + 1, hk => by
    by_cases e : k = n
    · subst e; rfl
    · show (if k = n then _ else dvs h m c n k) = _
      rw [if_neg e]; exact dvs_st h m c k n (by omega)
theorem dl_cg {r r' h h' m m' : Nat → Int32} {n : Nat} (hr : ∀ k, k < n → r k = r' k) (hh : h n = h' n) (hm : ∀ k, k ≤ n → m k = m' k) : ∀ j, j ≤ n → dl r h m n j = dl r' h' m' n j
  | 0, _ => hh
  | j + 1, hj => by simp only [dl]; rw [dl_cg hr hh hm j (by omega), hm (j + 1) hj, hr (n - (j + 1)) (by omega)]
theorem fdiv_eq (h m : Nat → Int32) (n : Nat) : fdiv h m n = fmul (dl (fdiv h m) h m n n) (finv (m 0)) := by
  show (if n = n then fmul (dl (dvs h m (finv (m 0)) n) h m n n) (finv (m 0)) else _) = _
  rw [if_pos rfl, dl_cg (r' := fdiv h m) (fun k hk => dvs_st h m _ k n hk) rfl (fun _ _ => rfl) n (Nat.le_refl _)]
theorem fdiv_cgn {h h' m m' : Nat → Int32} (hh : eq9 h h') (hm : eq9 m m') : ∀ N n, n < N → n < 9 → fdiv h m n = fdiv h' m' n
  | 0, n, h1, _ => by omega
  | N + 1, n, h1, h2 => by
    rw [fdiv_eq, fdiv_eq h' m', hm 0 (by omega), dl_cg (fun k hk => fdiv_cgn hh hm N k (by omega) (by omega)) (hh n h2) (fun k hk => hm k (by omega)) n (Nat.le_refl _)]
theorem fdiv_cg {h h' m m' : Nat → Int32} (hh : eq9 h h') (hm : eq9 m m') : eq9 (fdiv h m) (fdiv h' m') := fun n hn => fdiv_cgn hh hm (n + 1) n (by omega) hn
/-- 1 by a series -/
def fover (m : Nat → Int32) : Nat → Int32 := fdiv (mono 0 (nI 1)) m
theorem fover_cg {m m' : Nat → Int32} (hm : eq9 m m') : eq9 (fover m) (fover m') := fdiv_cg eq9.rf hm
def fad0 (f : Nat → Int32) (x : Int32) : Nat → Int32 := fun k => if k = 0 then fadd (f 0) x else f k
theorem fad0_cg {f f' : Nat → Int32} (x : Int32) (h : eq9 f f') : eq9 (fad0 f x) (fad0 f' x) := fun k hk => by
  unfold fad0; by_cases e : k = 0
  · rw [if_pos e, if_pos e, h 0 (by omega)]
  · rw [if_neg e, if_neg e, h k hk]
/-- one series in another, Horner's way -/
def pin (h m : Nat → Int32) : Nat → Nat → Int32
  | 0 => mono 0 (h 8)
  | j + 1 => fad0 (fprod (pin h m j) m) (h (7 - j))
def fput (h m : Nat → Int32) : Nat → Int32 := pin h m 8
theorem pin_cg {h h' m m' : Nat → Int32} (hh : eq9 h h') (hm : eq9 m m') : ∀ j, eq9 (pin h m j) (pin h' m' j)
  | 0 => by show eq9 (mono 0 (h 8)) (mono 0 (h' 8)); rw [hh 8 (by omega)]; exact eq9.rf
  | j + 1 => by
    show eq9 (fad0 (fprod (pin h m j) m) (h (7 - j))) (fad0 (fprod (pin h' m' j) m') (h' (7 - j)))
    rw [hh (7 - j) (by omega)]
    exact fad0_cg _ (fprod_cg (pin_cg hh hm j) hm)
theorem fput_cg {h h' m m' : Nat → Int32} (hh : eq9 h h') (hm : eq9 m m') : eq9 (fput h m) (fput h' m') := pin_cg hh hm 8
def flow (f : Nat → Int32) : Nat → Int32 := fun k => if k = 8 then nI 0 else f (k + 1)
theorem flow_cg {f f' : Nat → Int32} (h : eq9 f f') : eq9 (flow f) (flow f') := fun k hk => by
  unfold flow; by_cases e : k = 8
  · rw [if_pos e, if_pos e]
  · rw [if_neg e, if_neg e, h (k + 1) (by omega)]
def fpow (a : Nat → Int32) : Nat → Nat → Int32
  | 0 => mono 0 (nI 1)
  | n + 1 => fprod (fpow a n) a
theorem fpow_cg {a a' : Nat → Int32} (h : eq9 a a') : ∀ n, eq9 (fpow a n) (fpow a' n)
  | 0 => eq9.rf
  | n + 1 => fprod_cg (fpow_cg h n) h
/-- a series turned inside out -/
def fturn (f : Nat → Int32) : Nat → Int32 := fun n => if n = 0 then nI 0 else fmul (fpow (fover (flow f)) n (n - 1)) (finv (nI n))
theorem fturn_cg {f f' : Nat → Int32} (h : eq9 f f') : eq9 (fturn f) (fturn f') := fun n hn => by
  unfold fturn; by_cases e : n = 0
  · rw [if_pos e, if_pos e]
  · rw [if_neg e, if_neg e, fpow_cg (fover_cg (flow_cg h)) n (n - 1) (by omega)]
def fpows (a : Int32) : Nat → Int32
  | 0 => nI 1
  | k + 1 => fmul (fpows a k) a
/-- e(a t), by the numbers ex of e(t) -/
def fexp (ex : Nat → Int32) (a : Int32) : Nat → Int32 := fun k => fmul (fpows a k) (ex k)
/-- place k of p taken by h: the first j parts -/
def tkl (fa p h : Nat → Int32) (k : Nat) : Nat → Int32
  | 0 => nI 0
  | j + 1 => fadd (tkl fa p h k j) (fmul (fmul (p (k + j)) (fa (k + j))) (h j))
def ftake (fa ex p h : Nat → Int32) : Nat → Int32 := fun k => fmul (tkl fa p h k (9 - k)) (ex k)
theorem tkl_cg {fa fa' p p' h h' : Nat → Int32} {k : Nat} (hf : eq9 fa fa') (hp : eq9 p p') (hh : eq9 h h') : ∀ j, k + j ≤ 9 → tkl fa p h k j = tkl fa' p' h' k j
  | 0, _ => rfl
  | j + 1, hj => by simp only [tkl]; rw [tkl_cg hf hp hh j (by omega), hf (k + j) (by omega), hp (k + j) (by omega), hh j (by omega)]
theorem ftake_cg {fa fa' ex ex' p p' h h' : Nat → Int32} (hf : eq9 fa fa') (he : eq9 ex ex') (hp : eq9 p p') (hh : eq9 h h') : eq9 (ftake fa ex p h) (ftake fa' ex' p' h') := fun k hk => by
  unfold ftake; rw [tkl_cg hf hp hh (9 - k) (by omega), he k hk]
/-- what is integrated: each place by its number -/
def fint (p : Nat → Int32) : Nat → Int32 := fun k => if k = 0 then p 0 else fmul (p k) (finv (nI k))
theorem fup_cg {a a' : Nat → Int32} (h : eq9 a a') : eq9 (fup a) (fup a') := fun k hk => by
  unfold fup; by_cases e : k = 0
  · rw [if_pos e, if_pos e]
  · rw [if_neg e, if_neg e, h (k - 1) (by omega)]
theorem fint_cg {a a' : Nat → Int32} (h : eq9 a a') : eq9 (fint a) (fint a') := fun k hk => by
  unfold fint; by_cases e : k = 0
  · rw [if_pos e, if_pos e, h 0 (by omega)]
  · rw [if_neg e, if_neg e, h k hk]
def funtake (fa ex p f : Nat → Int32) : Nat → Int32 := fint (fup (ftake fa ex p (fover (flow f))))
theorem funtake_cg {fa fa' ex ex' p p' f f' : Nat → Int32} (hf : eq9 fa fa') (he : eq9 ex ex') (hp : eq9 p p') (hh : eq9 f f') : eq9 (funtake fa ex p f) (funtake fa' ex' p' f') := fint_cg (fup_cg (ftake_cg hf he hp (fover_cg (flow_cg hh))))
/-- place k of polynomial n -/
def fpol (fa ex first turned : Nat → Int32) (n k : Nat) : Int32 := fmul (fmul (fa n) (ex k)) (tpow first turned k n)
where tpow (first turned : Nat → Int32) : Nat → Nat → Int32
  | 0 => first
  | k + 1 => fprod (tpow first turned k) turned
theorem tpow_cg {a a' b b' : Nat → Int32} (h : eq9 a a') (h2 : eq9 b b') : ∀ n, eq9 (fpol.tpow a b n) (fpol.tpow a' b' n)
  | 0 => h
  | n + 1 => fprod_cg (tpow_cg h h2 n) h2
/-- M1 is M but for the cells that P names -/
def keep (P : Nat → Prop) (M M1 : Mem) : Prop := ∀ i, ¬ P i → M1 i = M i
theorem keep.rf {P : Nat → Prop} {M : Mem} : keep P M M := fun _ _ => rfl
theorem keep.tr {P : Nat → Prop} {M M1 M2 : Mem} (a : keep P M M1) (b : keep P M1 M2) : keep P M M2 := fun i hi => (b i hi).trans (a i hi)
theorem keep.wk {P P' : Nat → Prop} {M M1 : Mem} (a : keep P M M1) (h : ∀ i, P i → P' i) : keep P' M M1 := fun i hi => a i (fun q => hi (h i q))
theorem keep.as {P : Nat → Prop} {M M1 : Mem} {i lo hi : Nat} {f : Nat → Int32} (a : keep P M M1) (h : P i) : keep P M (aset M1 i lo hi f) := fun j hj => by
  have hne : j ≠ i := fun e => hj (by rw [e]; exact h)
  rw [aset_ne hne]; exact a j hj
theorem keep.ms {P : Nat → Prop} {M M1 : Mem} {i j : Nat} {x : Int32} (a : keep P M M1) (h : P i) : keep P M (mset M1 i j x) := fun k hk => by
  have hne : k ≠ i := fun e => hk (by rw [e]; exact h)
  rw [mset_ne hne]; exact a k hk
end
section
/-! ===== Reckoner ===== -/
theorem and1 {e : Nat} (he : e < 2 ^ 31) : nI e &&& nI 1 = nI (e % 2) := pk_andN (by omega) 1 (by decide)
theorem shr1 {e : Nat} (he : e < 2 ^ 31) : nI e >>> (nI 1 &&& 31) = nI (e / 2) := pk_shrN he _ 1 (by decide)
abbrev v_X2_inverse (g : Gl) (κ : Ka) (Q : State → Prop) (M : Mem) (pc : Nat) (L : List (Option Value)) (st : List Value) : Prop := V g cX2_inverse 4 yX2_inverse.cls (some .int) (rmd 0) Q κ M pc L st
theorem c_X2_inverse {g : Gl} {M : Mem} {x : Int32} : Ct g yX2_inverse cX2_inverse 4 (some .int) 0 [.int x] M (fun v M' => v = some (.int (finv x)) ∧ M' = M) := by
  refine Ct.ofV (by decide) (Nat.le_of_ble_eq_true rfl) (by simp [Value.category]) (fun κ => ?_)
  refine V.iconst (v := nI 1) dX2_inverse_0 rfl ?_
  refine V.istore_n dX2_inverse_1 (by decide) ?_
  refine V.iload_n dX2_inverse_2 rfl ?_
  refine V.istore_n dX2_inverse_3 (by decide) ?_
  refine V.sipush (v := nI 9971) dX2_inverse_4 (by decide) ?_
  refine V.istore_n dX2_inverse_7 (by decide) ?_
  have lp : ∀ (n e : Nat) (r s : Int32), e < 2 ^ n → n ≤ 14 → pwl n e r s = finv x → v_X2_inverse g κ (Qm g κ (fun v M' => v = some (.int (finv x)) ∧ M' = M)) M 8 [some (.int x), some (.int r), some (.int s), some (.int (nI e))] [] := by
    intro n
    induction n with
    | zero =>
      intro e r s h0 hn hp
      have he : e = 0 := by omega
      subst he
      refine V.iload_n dX2_inverse_8 rfl ?_
      refine V.if_leN (tgt := 42) dX2_inverse_9 (by decide) (by omega) (fun h1 => ?_) (fun h1 => ?_)
      · refine V.iload_n dX2_inverse_42 rfl ?_
        refine V.iret dX2_inverse_43 ?_
        exact ⟨by rw [← hp]; rfl, rfl⟩
      · omega
    | succ n ih =>
      intro e r s h0 hn hp
      have hb : e < 2 ^ 31 := Nat.lt_of_lt_of_le h0 (Nat.pow_le_pow_right (by decide) (by omega))
      refine V.iload_n dX2_inverse_8 rfl ?_
      refine V.if_leN (tgt := 42) dX2_inverse_9 (by decide) (by omega) (fun h1 => ?_) (fun h1 => ?_)
      · refine V.iload_n dX2_inverse_42 rfl ?_
        refine V.iret dX2_inverse_43 ?_
        exact ⟨by rw [← hp, pwl, if_pos h1], rfl⟩
      · rw [pwl, if_neg (by omega)] at hp
        have h2 : e / 2 < 2 ^ n := by rw [Nat.pow_succ] at h0; omega
        refine V.iload_n dX2_inverse_12 rfl ?_
        refine V.iconst (v := nI 1) dX2_inverse_13 rfl ?_
        refine V.iand dX2_inverse_14 ?_
        rw [and1 hb]
        refine V.iconst (v := nI 1) dX2_inverse_15 rfl ?_
        refine V.neN (tgt := 27) dX2_inverse_16 (by decide) (by omega) (by omega) (fun h3 => ?_) (fun h3 => ?_)
        · rw [if_neg h3] at hp
          refine V.iload_n dX2_inverse_27 rfl ?_
          refine V.iload_n dX2_inverse_28 rfl ?_
          refine V.imul dX2_inverse_29 ?_
          refine V.sipush (v := nI 9973) dX2_inverse_30 (by decide) ?_
          first | refine V.iremN dX2_inverse_33 (by omega) (by omega) (by omega) ?_ | refine V.irem dX2_inverse_33 (by decide) ?_
          refine V.istore_n dX2_inverse_34 (by decide) ?_
          refine V.iload_n dX2_inverse_35 rfl ?_
          refine V.iconst (v := nI 1) dX2_inverse_36 rfl ?_
          refine V.ishr dX2_inverse_37 ?_
          rw [shr1 hb]
          refine V.istore_n dX2_inverse_38 (by decide) ?_
          refine V.goto (tgt := 8) dX2_inverse_39 (by decide) ?_
          exact ih (e / 2) r _ h2 (by omega) hp
        · rw [if_pos h3] at hp
          refine V.iload_n dX2_inverse_19 rfl ?_
          refine V.iload_n dX2_inverse_20 rfl ?_
          refine V.imul dX2_inverse_21 ?_
          refine V.sipush (v := nI 9973) dX2_inverse_22 (by decide) ?_
          first | refine V.iremN dX2_inverse_25 (by omega) (by omega) (by omega) ?_ | refine V.irem dX2_inverse_25 (by decide) ?_
          refine V.istore_n dX2_inverse_26 (by decide) ?_
          refine V.iload_n dX2_inverse_27 rfl ?_
          refine V.iload_n dX2_inverse_28 rfl ?_
          refine V.imul dX2_inverse_29 ?_
          refine V.sipush (v := nI 9973) dX2_inverse_30 (by decide) ?_
          first | refine V.iremN dX2_inverse_33 (by omega) (by omega) (by omega) ?_ | refine V.irem dX2_inverse_33 (by decide) ?_
          refine V.istore_n dX2_inverse_34 (by decide) ?_
          refine V.iload_n dX2_inverse_35 rfl ?_
          refine V.iconst (v := nI 1) dX2_inverse_36 rfl ?_
          refine V.ishr dX2_inverse_37 ?_
          rw [shr1 hb]
          refine V.istore_n dX2_inverse_38 (by decide) ?_
          refine V.goto (tgt := 8) dX2_inverse_39 (by decide) ?_
          exact ih (e / 2) _ _ h2 (by omega) hp
  exact lp 14 9971 _ _ (by decide) (by decide) rfl
abbrev v_X4_multiply (g : Gl) (κ : Ka) (Q : State → Prop) (M : Mem) (pc : Nat) (L : List (Option Value)) (st : List Value) : Prop := V g cX4_multiply 7 yX4_multiply.cls none (rmd 1) Q κ M pc L st
theorem c_X4_multiply {g : Gl} {M : Mem} {i a b : Nat} (hi : i ∈ g.2.2.2.2) (li : ial i = 9) (ha : a ∈ g.2.2.2.2) (la : ial a = 9) (hb : b ∈ g.2.2.2.2) (lb : ial b = 9) : Ct g yX4_multiply cX4_multiply 7 none 1 [.ref (g.2.2.2.1 1), .ref (g.2.2.2.1 i), .ref (g.2.2.2.1 a), .ref (g.2.2.2.1 b)] M (fun v M' => v = none ∧ M' = aset M i 0 9 (fprod (M a) (M b))) := by
  refine Ct.ofV (by decide) (Nat.le_of_ble_eq_true rfl) (by simp [Value.category]) (fun κ => ?_)
  refine V.bipush (v := nI 8) dX4_multiply_0 (by decide) ?_
  refine V.istore dX4_multiply_2 (by decide) ?_
  have lp := dn_loop (fun k => k ≤ 9 → ∀ x5 x6, v_X4_multiply g κ (Qm g κ (fun v M' => v = none ∧ M' = aset M i 0 9 (fprod (M a) (M b)))) (aset M i k 9 (fprod (M a) (M b))) 4 [some (.ref (g.2.2.2.1 1)), some (.ref (g.2.2.2.1 i)), some (.ref (g.2.2.2.1 a)), some (.ref (g.2.2.2.1 b)), some (.int (nI k - 1)), x5, x6] []) (fun k ih hk x5 x6 => ?_) 9 (by omega) none none
  · rw [aset_nil (Nat.le_refl 9)] at lp
    exact lp
  · refine V.iload dX4_multiply_4 rfl ?_
    refine V.if_ltD (tgt := 61) dX4_multiply_6 (by decide) (by omega) (fun h1 => ?_) (fun j h1 => ?_)
    · subst h1
      refine V.vret dX4_multiply_61 ?_
      exact ⟨rfl, rfl⟩
    · subst h1
      rw [nI_pred]
      refine V.iconst (v := nI 0) dX4_multiply_9 rfl ?_
      refine V.istore dX4_multiply_10 (by decide) ?_
      refine V.iconst (v := nI 0) dX4_multiply_12 rfl ?_
      refine V.istore dX4_multiply_13 (by decide) ?_
      refine up_loop (j + 1) (fun q => v_X4_multiply g κ (Qm g κ (fun v M' => v = none ∧ M' = aset M i 0 9 (fprod (M a) (M b)))) (aset M i (j + 1) 9 (fprod (M a) (M b))) 15 [some (.ref (g.2.2.2.1 1)), some (.ref (g.2.2.2.1 i)), some (.ref (g.2.2.2.1 a)), some (.ref (g.2.2.2.1 b)), some (.int (nI j)), some (.int (cvl (M a) (M b) j q)), some (.int (nI q))] []) (fun q hq iq => ?_) 0 (by omega)
      refine V.iload dX4_multiply_15 rfl ?_
      refine V.iload dX4_multiply_17 rfl ?_
      refine V.gtN (tgt := 49) dX4_multiply_19 (by decide) (by omega) (by omega) (fun h2 => ?_) (fun h2 => ?_)
      · have e : q = j + 1 := by omega
        subst e
        refine V.aload_n dX4_multiply_49 rfl ?_
        refine V.iload dX4_multiply_50 rfl ?_
        refine V.iload dX4_multiply_52 rfl ?_
        refine V.iast (n := 9) dX4_multiply_54 (by first | assumption | exact hI _ (by omega)) (by first | assumption | decide) (by omega) ?_
        refine V.iincD dX4_multiply_55 (by decide) rfl ?_
        refine V.goto (tgt := 4) dX4_multiply_58 (by decide) ?_
        rw [aset_dn (f := fprod (M a) (M b)) (by omega) (show cvl (M a) (M b) j (j + 1) = fprod (M a) (M b) j from rfl)]
        exact ih j rfl (by omega) _ _
      · refine V.iload dX4_multiply_22 rfl ?_
        refine V.aload_n dX4_multiply_24 rfl ?_
        refine V.iload dX4_multiply_25 rfl ?_
        refine V.iald (n := 9) dX4_multiply_27 (by first | assumption | exact hI _ (by omega)) (by first | assumption | decide) (by omega) ?_
        refine V.aload_n dX4_multiply_28 rfl ?_
        refine V.iload dX4_multiply_29 rfl ?_
        refine V.iload dX4_multiply_31 rfl ?_
        first | refine V.isubN dX4_multiply_33 (by omega) ?_ | refine V.isub dX4_multiply_33 ?_
        refine V.iald (n := 9) dX4_multiply_34 (by first | assumption | exact hI _ (by omega)) (by first | assumption | decide) (by omega) ?_
        refine V.callS dX4_multiply_35 (c_X2_multiply) lkX4_42 st_X2_multiply cd_X2_multiply ini_X2 hd_X2_multiply ⟨Nat.le_of_ble_eq_true rfl, Nat.le_of_ble_eq_true rfl⟩ rfl (Nat.le_of_ble_eq_true rfl) (V.kkF ?_)
        refine V.callS dX4_multiply_38 (c_X2_add) lkX4_49 st_X2_add cd_X2_add ini_X2 hd_X2_add ⟨Nat.le_of_ble_eq_true rfl, Nat.le_of_ble_eq_true rfl⟩ rfl (Nat.le_of_ble_eq_true rfl) (V.kkF ?_)
        refine V.istore dX4_multiply_41 (by decide) ?_
        refine V.iincN dX4_multiply_43 (by decide) rfl ?_
        refine V.goto (tgt := 15) dX4_multiply_46 (by decide) ?_
        rw [aset_lo (by omega), aset_lo (by omega)]
        exact iq (by omega)
abbrev v_X4_divide (g : Gl) (κ : Ka) (Q : State → Prop) (M : Mem) (pc : Nat) (L : List (Option Value)) (st : List Value) : Prop := V g cX4_divide 8 yX4_divide.cls none (rmd 1) Q κ M pc L st
theorem c_X4_divide {g : Gl} {M : Mem} {i a b : Nat} (hi : i ∈ g.2.2.2.2) (li : ial i = 9) (ha : a ∈ g.2.2.2.2) (la : ial a = 9) (hb : b ∈ g.2.2.2.2) (lb : ial b = 9) (hne : i ≠ b) : Ct g yX4_divide cX4_divide 8 none 1 [.ref (g.2.2.2.1 1), .ref (g.2.2.2.1 i), .ref (g.2.2.2.1 a), .ref (g.2.2.2.1 b)] M (fun v M' => v = none ∧ M' = aset M i 0 9 (fdiv (M a) (M b))) := by
  refine Ct.ofV (by decide) (Nat.le_of_ble_eq_true rfl) (by simp [Value.category]) (fun κ => ?_)
  refine V.aload_n dX4_divide_0 rfl ?_
  refine V.iconst (v := nI 0) dX4_divide_1 rfl ?_
  refine V.iald (n := 9) dX4_divide_2 (by first | assumption | exact hI _ (by omega)) (by first | assumption | decide) (by omega) ?_
  refine V.callS dX4_divide_3 (c_X2_inverse) lkX4_36 st_X2_inverse cd_X2_inverse ini_X2 hd_X2_inverse ⟨Nat.le_of_ble_eq_true rfl, Nat.le_of_ble_eq_true rfl⟩ rfl (Nat.le_of_ble_eq_true rfl) (V.kkF ?_)
  refine V.istore dX4_divide_6 (by decide) ?_
  refine V.iconst (v := nI 0) dX4_divide_8 rfl ?_
  refine V.istore dX4_divide_9 (by decide) ?_
  have lp := up_loop 9 (fun n => ∀ x6 x7, v_X4_divide g κ (Qm g κ (fun v M' => v = none ∧ M' = aset M i 0 9 (fdiv (M a) (M b)))) (aset M i 0 n (fdiv (M a) (M b))) 11 [some (.ref (g.2.2.2.1 1)), some (.ref (g.2.2.2.1 i)), some (.ref (g.2.2.2.1 a)), some (.ref (g.2.2.2.1 b)), some (.int (finv (M b 0))), some (.int (nI n)), x6, x7] []) (fun n hn ih x6 x7 => ?_) 0 (by omega) none none
  · rw [aset_nil (Nat.le_refl 0)] at lp
    exact lp
  · refine V.iload dX4_divide_11 rfl ?_
    refine V.bipush (v := nI 9) dX4_divide_13 (by decide) ?_
    refine V.geN (tgt := 78) dX4_divide_15 (by decide) (by omega) (by omega) (fun h1 => ?_) (fun h1 => ?_)
    · have e : n = 9 := by omega
      subst e
      refine V.vret dX4_divide_78 ?_
      exact ⟨rfl, rfl⟩
    · refine V.aload_n dX4_divide_18 rfl ?_
      refine V.iload dX4_divide_19 rfl ?_
      refine V.iald (n := 9) dX4_divide_21 (by first | assumption | exact hI _ (by omega)) (by first | assumption | decide) (by omega) ?_
      rw [aset_hi (Nat.le_refl n)]
      refine V.istore dX4_divide_22 (by decide) ?_
      refine V.iconst (v := nI 1) dX4_divide_24 rfl ?_
      refine V.istore dX4_divide_25 (by decide) ?_
      have l2 := up_loop (n + 1) (fun q => 1 ≤ q → v_X4_divide g κ (Qm g κ (fun v M' => v = none ∧ M' = aset M i 0 9 (fdiv (M a) (M b)))) (aset M i 0 n (fdiv (M a) (M b))) 27 [some (.ref (g.2.2.2.1 1)), some (.ref (g.2.2.2.1 i)), some (.ref (g.2.2.2.1 a)), some (.ref (g.2.2.2.1 b)), some (.int (finv (M b 0))), some (.int (nI n)), some (.int (dl (fdiv (M a) (M b)) (M a) (M b) n (q - 1))), some (.int (nI q))] []) (fun q hq iq h0 => ?_) 1 (by omega) (by omega)
      · exact l2
      · refine V.iload dX4_divide_27 rfl ?_
        refine V.iload dX4_divide_29 rfl ?_
        refine V.gtN (tgt := 61) dX4_divide_31 (by decide) (by omega) (by omega) (fun h2 => ?_) (fun h2 => ?_)
        · have e : q = n + 1 := by omega
          subst e
          refine V.aload_n dX4_divide_61 rfl ?_
          refine V.iload dX4_divide_62 rfl ?_
          refine V.iload dX4_divide_64 rfl ?_
          refine V.iload dX4_divide_66 rfl ?_
          refine V.callS dX4_divide_68 (c_X2_multiply) lkX4_42 st_X2_multiply cd_X2_multiply ini_X2 hd_X2_multiply ⟨Nat.le_of_ble_eq_true rfl, Nat.le_of_ble_eq_true rfl⟩ rfl (Nat.le_of_ble_eq_true rfl) (V.kkF ?_)
          refine V.iast (n := 9) dX4_divide_71 (by first | assumption | exact hI _ (by omega)) (by first | assumption | decide) (by omega) ?_
          refine V.iincN dX4_divide_72 (by decide) rfl ?_
          refine V.goto (tgt := 11) dX4_divide_75 (by decide) ?_
          rw [aset_up (Nat.zero_le _) (by rw [fdiv_eq]; rfl)]
          exact ih (by omega) _ _
        · refine V.iload dX4_divide_34 rfl ?_
          refine V.aload_n dX4_divide_36 rfl ?_
          refine V.iload dX4_divide_37 rfl ?_
          refine V.iald (n := 9) dX4_divide_39 (by first | assumption | exact hI _ (by omega)) (by first | assumption | decide) (by omega) ?_
          refine V.aload_n dX4_divide_40 rfl ?_
          refine V.iload dX4_divide_41 rfl ?_
          refine V.iload dX4_divide_43 rfl ?_
          first | refine V.isubN dX4_divide_45 (by omega) ?_ | refine V.isub dX4_divide_45 ?_
          refine V.iald (n := 9) dX4_divide_46 (by first | assumption | exact hI _ (by omega)) (by first | assumption | decide) (by omega) ?_
          refine V.callS dX4_divide_47 (c_X2_multiply) lkX4_42 st_X2_multiply cd_X2_multiply ini_X2 hd_X2_multiply ⟨Nat.le_of_ble_eq_true rfl, Nat.le_of_ble_eq_true rfl⟩ rfl (Nat.le_of_ble_eq_true rfl) (V.kkF ?_)
          refine V.callS dX4_divide_50 (c_X2_subtract) lkX4_46 st_X2_subtract cd_X2_subtract ini_X2 hd_X2_subtract ⟨Nat.le_of_ble_eq_true rfl, Nat.le_of_ble_eq_true rfl⟩ rfl (Nat.le_of_ble_eq_true rfl) (V.kkF ?_)
          refine V.istore dX4_divide_53 (by decide) ?_
          refine V.iincN dX4_divide_55 (by decide) rfl ?_
          refine V.goto (tgt := 27) dX4_divide_58 (by decide) ?_
          rw [aset_ne (Ne.symm hne), aset_in (Nat.zero_le _) (by omega)]
          have e := iq (by omega) (by omega)
          rw [show q + 1 - 1 = (q - 1) + 1 by omega] at e
          simp only [dl] at e
          rw [show q - 1 + 1 = q by omega] at e
          exact e
theorem c_X4_overSeries {g : Gl} {M : Mem} {i b : Nat} (h1 : 1 ∈ g.2.2.2.2) (hi : i ∈ g.2.2.2.2) (li : ial i = 9) (hb : b ∈ g.2.2.2.2) (lb : ial b = 9) (hne : i ≠ b) : Ct g yX4_overSeries cX4_overSeries 3 none 2 [.ref (g.2.2.2.1 1), .ref (g.2.2.2.1 i), .ref (g.2.2.2.1 b)] M (fun v M' => v = none ∧ M' = aset M i 0 9 (fover (M b))) := by
  refine Ct.ofV (by decide) (Nat.le_of_ble_eq_true rfl) (by simp [Value.category]) (fun κ => ?_)
  refine V.aload_n dX4_overSeries_0 rfl ?_
  refine V.iconst (v := nI 0) dX4_overSeries_1 rfl ?_
  refine V.iconst (v := nI 1) dX4_overSeries_2 rfl ?_
  refine V.callSN dX4_overSeries_3 (c_X7_setMonomial (k := 0) hi li (by decide)) nlX4_52 st_X7_setMonomial cd_X7_setMonomial ini_X7 hd_X7_setMonomial ⟨Nat.le_of_ble_eq_true rfl, Nat.le_of_ble_eq_true rfl⟩ rfl (Nat.le_of_ble_eq_true rfl) (V.kkN ?_)
  refine V.aload_n dX4_overSeries_6 rfl ?_
  refine V.aload_n dX4_overSeries_7 rfl ?_
  refine V.aload_n dX4_overSeries_8 rfl ?_
  refine V.aload_n dX4_overSeries_9 rfl ?_
  refine V.callV (ci := 3) (T := TX4) (N := 8) dX4_overSeries_10 (c_X4_divide hi li hi li hb lb hne) lkX4_56 im_X4_divide se_X4_divide cd_X4_divide ini_X4 rfl (by first | assumption | exact hI _ (by omega)) rfl hd_X4_divide ⟨Nat.le_of_ble_eq_true rfl, Nat.le_of_ble_eq_true rfl⟩ rfl (Nat.le_of_ble_eq_true rfl) (V.kkN ?_)
  refine V.vret dX4_overSeries_13 ?_
  refine ⟨rfl, ?_⟩
  rw [aset_aset, aset_ne (Ne.symm hne)]
  exact aset_cg9 (fdiv_cg aset_9 eq9.rf)
abbrev v_X4_putInside (g : Gl) (κ : Ka) (Q : State → Prop) (M : Mem) (pc : Nat) (L : List (Option Value)) (st : List Value) : Prop := V g cX4_putInside 5 yX4_putInside.cls none (rmd 2) Q κ M pc L st
theorem c_X4_putInside {g : Gl} {M : Mem} {i a b : Nat} (hI : ∀ i, 1 ≤ i ∧ i ≤ 9 → i ∈ g.2.2.2.2) (hi : i ∈ g.2.2.2.2) (li : ial i = 9) (ha : a ∈ g.2.2.2.2) (la : ial a = 9) (hb : b ∈ g.2.2.2.2) (lb : ial b = 9) (ha6 : a ≠ 6) (hb6 : b ≠ 6) : Ct g yX4_putInside cX4_putInside 5 none 2 [.ref (g.2.2.2.1 1), .ref (g.2.2.2.1 i), .ref (g.2.2.2.1 a), .ref (g.2.2.2.1 b)] M (fun v M' => v = none ∧ M' = aset (aset M 6 0 9 (fput (M a) (M b))) i 0 9 (fput (M a) (M b))) := by
  refine Ct.ofV (by decide) (Nat.le_of_ble_eq_true rfl) (by simp [Value.category]) (fun κ => ?_)
  refine V.aload_n dX4_putInside_0 rfl ?_
  refine V.getf (ci := 3) (k := 4) (C := RX4) (T := TX4) (N := 8) dX4_putInside_1 lfX4_24 inX4 rfl (by first | assumption | exact hI _ (by omega)) rfl (by decide) rfl ?_
  refine V.iconst (v := nI 0) dX4_putInside_4 rfl ?_
  refine V.aload_n dX4_putInside_5 rfl ?_
  refine V.bipush (v := nI 8) dX4_putInside_6 (by decide) ?_
  refine V.iald (n := 9) dX4_putInside_8 (by first | assumption | exact hI _ (by omega)) (by first | assumption | decide) (by omega) ?_
  refine V.callSN dX4_putInside_9 (c_X7_setMonomial (k := 0) (hI 6 (by decide)) rfl (by decide)) nlX4_52 st_X7_setMonomial cd_X7_setMonomial ini_X7 hd_X7_setMonomial ⟨Nat.le_of_ble_eq_true rfl, Nat.le_of_ble_eq_true rfl⟩ rfl (Nat.le_of_ble_eq_true rfl) (V.kkN ?_)
  refine V.bipush (v := nI 7) dX4_putInside_12 (by decide) ?_
  refine V.istore dX4_putInside_14 (by decide) ?_
  have lp := dn_loop (fun k => k ≤ 8 → v_X4_putInside g κ (Qm g κ (fun v M' => v = none ∧ M' = aset (aset M 6 0 9 (fput (M a) (M b))) i 0 9 (fput (M a) (M b)))) (aset M 6 0 9 (pin (M a) (M b) (8 - k))) 16 [some (.ref (g.2.2.2.1 1)), some (.ref (g.2.2.2.1 i)), some (.ref (g.2.2.2.1 a)), some (.ref (g.2.2.2.1 b)), some (.int (nI k - 1))] []) (fun k ih hk => ?_) 8 (by omega)
  · exact lp
  · refine V.iload dX4_putInside_16 rfl ?_
    refine V.if_ltD (tgt := 59) dX4_putInside_18 (by decide) (by omega) (fun h1 => ?_) (fun j h1 => ?_)
    · subst h1
      refine V.aload_n dX4_putInside_59 rfl ?_
      refine V.getf (ci := 3) (k := 4) (C := RX4) (T := TX4) (N := 8) dX4_putInside_60 lfX4_24 inX4 rfl (by first | assumption | exact hI _ (by omega)) rfl (by decide) rfl ?_
      refine V.aload_n dX4_putInside_63 rfl ?_
      refine V.callSN dX4_putInside_64 (c_X7_copy (hI 6 (by decide)) hi rfl li) nlX4_62 st_X7_copy cd_X7_copy ini_X7 hd_X7_copy ⟨Nat.le_of_ble_eq_true rfl, Nat.le_of_ble_eq_true rfl⟩ rfl (Nat.le_of_ble_eq_true rfl) (V.kkN ?_)
      refine V.vret dX4_putInside_67 ?_
      exact ⟨rfl, aset_cg9 aset_9⟩
    · subst h1
      rw [nI_pred]
      refine V.aload_n dX4_putInside_21 rfl ?_
      refine V.aload_n dX4_putInside_22 rfl ?_
      refine V.getf (ci := 3) (k := 4) (C := RX4) (T := TX4) (N := 8) dX4_putInside_23 lfX4_24 inX4 rfl (by first | assumption | exact hI _ (by omega)) rfl (by decide) rfl ?_
      refine V.aload_n dX4_putInside_26 rfl ?_
      refine V.getf (ci := 3) (k := 4) (C := RX4) (T := TX4) (N := 8) dX4_putInside_27 lfX4_24 inX4 rfl (by first | assumption | exact hI _ (by omega)) rfl (by decide) rfl ?_
      refine V.aload_n dX4_putInside_30 rfl ?_
      refine V.callV (ci := 3) (T := TX4) (N := 8) dX4_putInside_31 (c_X4_multiply (hI 6 (by decide)) rfl (hI 6 (by decide)) rfl hb lb) lkX4_60 im_X4_multiply se_X4_multiply cd_X4_multiply ini_X4 rfl (by first | assumption | exact hI _ (by omega)) rfl hd_X4_multiply ⟨Nat.le_of_ble_eq_true rfl, Nat.le_of_ble_eq_true rfl⟩ rfl (Nat.le_of_ble_eq_true rfl) (V.kkN ?_)
      refine V.aload_n dX4_putInside_34 rfl ?_
      refine V.getf (ci := 3) (k := 4) (C := RX4) (T := TX4) (N := 8) dX4_putInside_35 lfX4_24 inX4 rfl (by first | assumption | exact hI _ (by omega)) rfl (by decide) rfl ?_
      refine V.iconst (v := nI 0) dX4_putInside_38 rfl ?_
      refine V.aload_n dX4_putInside_39 rfl ?_
      refine V.getf (ci := 3) (k := 4) (C := RX4) (T := TX4) (N := 8) dX4_putInside_40 lfX4_24 inX4 rfl (by first | assumption | exact hI _ (by omega)) rfl (by decide) rfl ?_
      refine V.iconst (v := nI 0) dX4_putInside_43 rfl ?_
      refine V.iald (n := 9) dX4_putInside_44 (by first | assumption | exact hI _ (by omega)) (by first | assumption | decide) (by omega) ?_
      refine V.aload_n dX4_putInside_45 rfl ?_
      refine V.iload dX4_putInside_46 rfl ?_
      refine V.iald (n := 9) dX4_putInside_48 (by first | assumption | exact hI _ (by omega)) (by first | assumption | decide) (by omega) ?_
      refine V.callS dX4_putInside_49 (c_X2_add) lkX4_49 st_X2_add cd_X2_add ini_X2 hd_X2_add ⟨Nat.le_of_ble_eq_true rfl, Nat.le_of_ble_eq_true rfl⟩ rfl (Nat.le_of_ble_eq_true rfl) (V.kkF ?_)
      refine V.iast (n := 9) dX4_putInside_52 (by first | assumption | exact hI _ (by omega)) (by first | assumption | decide) (by omega) ?_
      refine V.iincD dX4_putInside_53 (by decide) rfl ?_
      refine V.goto (tgt := 16) dX4_putInside_56 (by decide) ?_
      have e := ih j rfl (by omega)
      rw [show 8 - j = (8 - (j + 1)) + 1 by omega] at e
      have e2 : mset (aset (aset M 6 0 9 (pin (M a) (M b) (8 - (j + 1)))) 6 0 9 (fprod (aset M 6 0 9 (pin (M a) (M b) (8 - (j + 1))) 6) (aset M 6 0 9 (pin (M a) (M b) (8 - (j + 1))) b))) 6 0 (fadd (aset (aset M 6 0 9 (pin (M a) (M b) (8 - (j + 1)))) 6 0 9 (fprod (aset M 6 0 9 (pin (M a) (M b) (8 - (j + 1))) 6) (aset M 6 0 9 (pin (M a) (M b) (8 - (j + 1))) b)) 6 0) (aset (aset M 6 0 9 (pin (M a) (M b) (8 - (j + 1)))) 6 0 9 (fprod (aset M 6 0 9 (pin (M a) (M b) (8 - (j + 1))) 6) (aset M 6 0 9 (pin (M a) (M b) (8 - (j + 1))) b)) a j)) = aset M 6 0 9 (pin (M a) (M b) (8 - (j + 1) + 1)) := by
        rw [aset_aset, aset_ne hb6, aset_cg9 (fprod_cg aset_9 eq9.rf), aset_ne ha6, aset_in (Nat.zero_le _) (by decide)]
        funext x z
        simp only [pin, fad0, mset, aset]
        rw [show 7 - (8 - (j + 1)) = j by omega]
        by_cases hx : x = 6
        · subst hx
          by_cases hz : z = 0
          · subst hz; simp
          · simp [hz]
        · simp [hx]
      rw [← e2] at e
      exact e
abbrev v_X4_lower (g : Gl) (κ : Ka) (Q : State → Prop) (M : Mem) (pc : Nat) (L : List (Option Value)) (st : List Value) : Prop := V g cX4_lower 3 yX4_lower.cls none (rmd 0) Q κ M pc L st
theorem c_X4_lower {g : Gl} {M : Mem} {a : Nat} (hI : ∀ i, 1 ≤ i ∧ i ≤ 9 → i ∈ g.2.2.2.2) (ha : a ∈ g.2.2.2.2) (la : ial a = 9) (hne : a ≠ 7) : Ct g yX4_lower cX4_lower 3 none 0 [.ref (g.2.2.2.1 1), .ref (g.2.2.2.1 a)] M (fun v M' => v = none ∧ M' = aset M 7 0 9 (flow (M a))) := by
  refine Ct.ofV (by decide) (Nat.le_of_ble_eq_true rfl) (by simp [Value.category]) (fun κ => ?_)
  refine V.iconst (v := nI 0) dX4_lower_0 rfl ?_
  refine V.istore_n dX4_lower_1 (by decide) ?_
  have lp := up_loop 8 (fun j => v_X4_lower g κ (Qm g κ (fun v M' => v = none ∧ M' = aset M 7 0 9 (flow (M a)))) (aset M 7 0 j (flow (M a))) 2 [some (.ref (g.2.2.2.1 1)), some (.ref (g.2.2.2.1 a)), some (.int (nI j))] []) (fun j hj ih => ?_) 0 (by omega)
  · rw [aset_nil (Nat.le_refl 0)] at lp
    exact lp
  · refine V.iload_n dX4_lower_2 rfl ?_
    refine V.bipush (v := nI 8) dX4_lower_3 (by decide) ?_
    refine V.geN (tgt := 25) dX4_lower_5 (by decide) (by omega) (by omega) (fun h1 => ?_) (fun h1 => ?_)
    · have e : j = 8 := by omega
      subst e
      refine V.aload_n dX4_lower_25 rfl ?_
      refine V.getf (ci := 3) (k := 5) (C := RX4) (T := TX4) (N := 8) dX4_lower_26 lfX4_27 inX4 rfl (by first | assumption | exact hI _ (by omega)) rfl (by decide) rfl ?_
      refine V.bipush (v := nI 8) dX4_lower_29 (by decide) ?_
      refine V.iconst (v := nI 0) dX4_lower_31 rfl ?_
      refine V.iast (n := 9) dX4_lower_32 (by first | assumption | exact hI _ (by omega)) (by first | assumption | decide) (by omega) ?_
      refine V.vret dX4_lower_33 ?_
      exact ⟨rfl, aset_up (f := flow (M a)) (hi := 8) (by decide) rfl⟩
    · refine V.aload_n dX4_lower_8 rfl ?_
      refine V.getf (ci := 3) (k := 5) (C := RX4) (T := TX4) (N := 8) dX4_lower_9 lfX4_27 inX4 rfl (by first | assumption | exact hI _ (by omega)) rfl (by decide) rfl ?_
      refine V.iload_n dX4_lower_12 rfl ?_
      refine V.aload_n dX4_lower_13 rfl ?_
      refine V.iload_n dX4_lower_14 rfl ?_
      refine V.iconst (v := nI 1) dX4_lower_15 rfl ?_
      first | refine V.iaddN dX4_lower_16 ?_ | refine V.iadd dX4_lower_16 ?_
      refine V.iald (n := 9) dX4_lower_17 (by first | assumption | exact hI _ (by omega)) (by first | assumption | decide) (by omega) ?_
      refine V.iast (n := 9) dX4_lower_18 (by first | assumption | exact hI _ (by omega)) (by first | assumption | decide) (by omega) ?_
      refine V.iincN dX4_lower_19 (by decide) rfl ?_
      refine V.goto (tgt := 2) dX4_lower_22 (by decide) ?_
      rw [aset_up (f := flow (M a)) (hi := j) (Nat.zero_le _) (by rw [aset_ne hne]; unfold flow; rw [if_neg (by omega)])]
      exact ih (by omega)
abbrev v_X4_exponentialOf (g : Gl) (κ : Ka) (Q : State → Prop) (M : Mem) (pc : Nat) (L : List (Option Value)) (st : List Value) : Prop := V g cX4_exponentialOf 5 yX4_exponentialOf.cls none (rmd 1) Q κ M pc L st
theorem c_X4_exponentialOf {g : Gl} {M : Mem} {i : Nat} {a : Int32} (hI : ∀ i, 1 ≤ i ∧ i ≤ 9 → i ∈ g.2.2.2.2) (hi : i ∈ g.2.2.2.2) (li : ial i = 9) (hne : 2 ≠ i) : Ct g yX4_exponentialOf cX4_exponentialOf 5 none 1 [.ref (g.2.2.2.1 1), .ref (g.2.2.2.1 i), .int a] M (fun v M' => v = none ∧ M' = aset M i 0 9 (fexp (M 2) a)) := by
  refine Ct.ofV (by decide) (Nat.le_of_ble_eq_true rfl) (by simp [Value.category]) (fun κ => ?_)
  refine V.iconst (v := nI 1) dX4_exponentialOf_0 rfl ?_
  refine V.istore_n dX4_exponentialOf_1 (by decide) ?_
  refine V.iconst (v := nI 0) dX4_exponentialOf_2 rfl ?_
  refine V.istore dX4_exponentialOf_3 (by decide) ?_
  have lp := up_loop 9 (fun j => v_X4_exponentialOf g κ (Qm g κ (fun v M' => v = none ∧ M' = aset M i 0 9 (fexp (M 2) a))) (aset M i 0 j (fexp (M 2) a)) 5 [some (.ref (g.2.2.2.1 1)), some (.ref (g.2.2.2.1 i)), some (.int a), some (.int (fpows a j)), some (.int (nI j))] []) (fun j hj ih => ?_) 0 (by omega)
  · rw [aset_nil (Nat.le_refl 0)] at lp
    exact lp
  · refine V.iload dX4_exponentialOf_5 rfl ?_
    refine V.bipush (v := nI 9) dX4_exponentialOf_7 (by decide) ?_
    refine V.geN (tgt := 39) dX4_exponentialOf_9 (by decide) (by omega) (by omega) (fun h1 => ?_) (fun h1 => ?_)
    · have e : j = 9 := by omega
      subst e
      refine V.vret dX4_exponentialOf_39 ?_
      exact ⟨rfl, rfl⟩
    · refine V.aload_n dX4_exponentialOf_12 rfl ?_
      refine V.iload dX4_exponentialOf_13 rfl ?_
      refine V.iload_n dX4_exponentialOf_15 rfl ?_
      refine V.aload_n dX4_exponentialOf_16 rfl ?_
      refine V.getf (ci := 3) (k := 0) (C := RX4) (T := TX4) (N := 8) dX4_exponentialOf_17 lfX4_9 inX4 rfl (by first | assumption | exact hI _ (by omega)) rfl (by decide) rfl ?_
      refine V.iload dX4_exponentialOf_20 rfl ?_
      refine V.iald (n := 9) dX4_exponentialOf_22 (by first | assumption | exact hI _ (by omega)) (by first | assumption | decide) (by omega) ?_
      refine V.callS dX4_exponentialOf_23 (c_X2_multiply) lkX4_42 st_X2_multiply cd_X2_multiply ini_X2 hd_X2_multiply ⟨Nat.le_of_ble_eq_true rfl, Nat.le_of_ble_eq_true rfl⟩ rfl (Nat.le_of_ble_eq_true rfl) (V.kkF ?_)
      refine V.iast (n := 9) dX4_exponentialOf_26 (by first | assumption | exact hI _ (by omega)) (by first | assumption | decide) (by omega) ?_
      refine V.iload_n dX4_exponentialOf_27 rfl ?_
      refine V.iload_n dX4_exponentialOf_28 rfl ?_
      refine V.callS dX4_exponentialOf_29 (c_X2_multiply) lkX4_42 st_X2_multiply cd_X2_multiply ini_X2 hd_X2_multiply ⟨Nat.le_of_ble_eq_true rfl, Nat.le_of_ble_eq_true rfl⟩ rfl (Nat.le_of_ble_eq_true rfl) (V.kkF ?_)
      refine V.istore_n dX4_exponentialOf_32 (by decide) ?_
      refine V.iincN dX4_exponentialOf_33 (by decide) rfl ?_
      refine V.goto (tgt := 5) dX4_exponentialOf_36 (by decide) ?_
      rw [aset_up (f := fexp (M 2) a) (hi := j) (Nat.zero_le _) (by rw [aset_ne hne]; rfl)]
      exact ih (by omega)
abbrev v_X4_takeBy (g : Gl) (κ : Ka) (Q : State → Prop) (M : Mem) (pc : Nat) (L : List (Option Value)) (st : List Value) : Prop := V g cX4_takeBy 7 yX4_takeBy.cls none (rmd 1) Q κ M pc L st
theorem c_X4_takeBy {g : Gl} {M : Mem} {i a : Nat} (hI : ∀ i, 1 ≤ i ∧ i ≤ 9 → i ∈ g.2.2.2.2) (hi : i ∈ g.2.2.2.2) (li : ial i = 9) (ha : a ∈ g.2.2.2.2) (la : ial a = 9) (hne : a ≠ i) (h2 : 2 ≠ i) (h5 : 5 ≠ i) : Ct g yX4_takeBy cX4_takeBy 7 none 1 [.ref (g.2.2.2.1 1), .ref (g.2.2.2.1 i), .ref (g.2.2.2.1 a)] M (fun v M' => v = none ∧ M' = aset M i 0 9 (ftake (M 5) (M 2) (M i) (M a))) := by
  refine Ct.ofV (by decide) (Nat.le_of_ble_eq_true rfl) (by simp [Value.category]) (fun κ => ?_)
  refine V.iconst (v := nI 0) dX4_takeBy_0 rfl ?_
  refine V.istore_n dX4_takeBy_1 (by decide) ?_
  have lp := up_loop 9 (fun j => ∀ x4 x5 x6, v_X4_takeBy g κ (Qm g κ (fun v M' => v = none ∧ M' = aset M i 0 9 (ftake (M 5) (M 2) (M i) (M a)))) (aset M i 0 j (ftake (M 5) (M 2) (M i) (M a))) 2 [some (.ref (g.2.2.2.1 1)), some (.ref (g.2.2.2.1 i)), some (.ref (g.2.2.2.1 a)), some (.int (nI j)), x4, x5, x6] []) (fun j hj ih x4 x5 x6 => ?_) 0 (by omega) none none none
  · rw [aset_nil (Nat.le_refl 0)] at lp
    exact lp
  · refine V.iload_n dX4_takeBy_2 rfl ?_
    refine V.bipush (v := nI 9) dX4_takeBy_3 (by decide) ?_
    refine V.geN (tgt := 85) dX4_takeBy_5 (by decide) (by omega) (by omega) (fun h1 => ?_) (fun h1 => ?_)
    · have e : j = 9 := by omega
      subst e
      refine V.vret dX4_takeBy_85 ?_
      exact ⟨rfl, rfl⟩
    · refine V.iconst (v := nI 0) dX4_takeBy_8 rfl ?_
      refine V.istore dX4_takeBy_9 (by decide) ?_
      refine V.iconst (v := nI 0) dX4_takeBy_11 rfl ?_
      refine V.istore dX4_takeBy_12 (by decide) ?_
      refine up_loop (9 - j) (fun q => ∀ x6, v_X4_takeBy g κ (Qm g κ (fun v M' => v = none ∧ M' = aset M i 0 9 (ftake (M 5) (M 2) (M i) (M a)))) (aset M i 0 j (ftake (M 5) (M 2) (M i) (M a))) 14 [some (.ref (g.2.2.2.1 1)), some (.ref (g.2.2.2.1 i)), some (.ref (g.2.2.2.1 a)), some (.int (nI j)), some (.int (tkl (M 5) (M i) (M a) j q)), some (.int (nI q)), x6] []) (fun q hq iq x6 => ?_) 0 (by omega) _
      refine V.iload_n dX4_takeBy_14 rfl ?_
      refine V.iload dX4_takeBy_15 rfl ?_
      first | refine V.iaddN dX4_takeBy_17 ?_ | refine V.iadd dX4_takeBy_17 ?_
      refine V.bipush (v := nI 9) dX4_takeBy_18 (by decide) ?_
      refine V.geN (tgt := 65) dX4_takeBy_20 (by decide) (by omega) (by omega) (fun h3 => ?_) (fun h3 => ?_)
      · have e : q = 9 - j := by omega
        subst e
        refine V.aload_n dX4_takeBy_65 rfl ?_
        refine V.iload_n dX4_takeBy_66 rfl ?_
        refine V.iload dX4_takeBy_67 rfl ?_
        refine V.aload_n dX4_takeBy_69 rfl ?_
        refine V.getf (ci := 3) (k := 0) (C := RX4) (T := TX4) (N := 8) dX4_takeBy_70 lfX4_9 inX4 rfl (by first | assumption | exact hI _ (by omega)) rfl (by decide) rfl ?_
        refine V.iload_n dX4_takeBy_73 rfl ?_
        refine V.iald (n := 9) dX4_takeBy_74 (by first | assumption | exact hI _ (by omega)) (by first | assumption | decide) (by omega) ?_
        refine V.callS dX4_takeBy_75 (c_X2_multiply) lkX4_42 st_X2_multiply cd_X2_multiply ini_X2 hd_X2_multiply ⟨Nat.le_of_ble_eq_true rfl, Nat.le_of_ble_eq_true rfl⟩ rfl (Nat.le_of_ble_eq_true rfl) (V.kkF ?_)
        refine V.iast (n := 9) dX4_takeBy_78 (by first | assumption | exact hI _ (by omega)) (by first | assumption | decide) (by omega) ?_
        refine V.iincN dX4_takeBy_79 (by decide) rfl ?_
        refine V.goto (tgt := 2) dX4_takeBy_82 (by decide) ?_
        rw [aset_up (f := ftake (M 5) (M 2) (M i) (M a)) (hi := j) (Nat.zero_le _) (by rw [aset_ne h2]; rfl)]
        exact ih (by omega) _ _ _
      · refine V.aload_n dX4_takeBy_23 rfl ?_
        refine V.iload_n dX4_takeBy_24 rfl ?_
        refine V.iload dX4_takeBy_25 rfl ?_
        first | refine V.iaddN dX4_takeBy_27 ?_ | refine V.iadd dX4_takeBy_27 ?_
        refine V.iald (n := 9) dX4_takeBy_28 (by first | assumption | exact hI _ (by omega)) (by first | assumption | decide) (by omega) ?_
        refine V.aload_n dX4_takeBy_29 rfl ?_
        refine V.getf (ci := 3) (k := 3) (C := RX4) (T := TX4) (N := 8) dX4_takeBy_30 lfX4_21 inX4 rfl (by first | assumption | exact hI _ (by omega)) rfl (by decide) rfl ?_
        refine V.iload_n dX4_takeBy_33 rfl ?_
        refine V.iload dX4_takeBy_34 rfl ?_
        first | refine V.iaddN dX4_takeBy_36 ?_ | refine V.iadd dX4_takeBy_36 ?_
        refine V.iald (n := 9) dX4_takeBy_37 (by first | assumption | exact hI _ (by omega)) (by first | assumption | decide) (by omega) ?_
        refine V.callS dX4_takeBy_38 (c_X2_multiply) lkX4_42 st_X2_multiply cd_X2_multiply ini_X2 hd_X2_multiply ⟨Nat.le_of_ble_eq_true rfl, Nat.le_of_ble_eq_true rfl⟩ rfl (Nat.le_of_ble_eq_true rfl) (V.kkF ?_)
        refine V.istore dX4_takeBy_41 (by decide) ?_
        refine V.iload dX4_takeBy_43 rfl ?_
        refine V.iload dX4_takeBy_45 rfl ?_
        refine V.aload_n dX4_takeBy_47 rfl ?_
        refine V.iload dX4_takeBy_48 rfl ?_
        refine V.iald (n := 9) dX4_takeBy_50 (by first | assumption | exact hI _ (by omega)) (by first | assumption | decide) (by omega) ?_
        refine V.callS dX4_takeBy_51 (c_X2_multiply) lkX4_42 st_X2_multiply cd_X2_multiply ini_X2 hd_X2_multiply ⟨Nat.le_of_ble_eq_true rfl, Nat.le_of_ble_eq_true rfl⟩ rfl (Nat.le_of_ble_eq_true rfl) (V.kkF ?_)
        refine V.callS dX4_takeBy_54 (c_X2_add) lkX4_49 st_X2_add cd_X2_add ini_X2 hd_X2_add ⟨Nat.le_of_ble_eq_true rfl, Nat.le_of_ble_eq_true rfl⟩ rfl (Nat.le_of_ble_eq_true rfl) (V.kkF ?_)
        refine V.istore dX4_takeBy_57 (by decide) ?_
        refine V.iincN dX4_takeBy_59 (by decide) rfl ?_
        refine V.goto (tgt := 14) dX4_takeBy_62 (by decide) ?_
        rw [aset_hi (by omega), aset_ne h5, aset_ne hne]
        exact iq (by omega) _
abbrev v_X4_turnInsideOut (g : Gl) (κ : Ka) (Q : State → Prop) (M : Mem) (pc : Nat) (L : List (Option Value)) (st : List Value) : Prop := V g cX4_turnInsideOut 5 yX4_turnInsideOut.cls none (rmd 3) Q κ M pc L st
theorem c_X4_turnInsideOut {g : Gl} {M : Mem} {i a : Nat} (hI : ∀ i, 1 ≤ i ∧ i ≤ 9 → i ∈ g.2.2.2.2) (hi : i ∈ g.2.2.2.2) (li : ial i = 9) (ha : a ∈ g.2.2.2.2) (la : ial a = 9) (hi6 : ¬ (6 ≤ i ∧ i ≤ 9)) (ha6 : ¬ (6 ≤ a ∧ a ≤ 9)) : Ct g yX4_turnInsideOut cX4_turnInsideOut 5 none 3 [.ref (g.2.2.2.1 1), .ref (g.2.2.2.1 i), .ref (g.2.2.2.1 a)] M (fun v M' => v = none ∧ keep (fun j => j = i ∨ (6 ≤ j ∧ j ≤ 9)) M M' ∧ eq9 (M' i) (fturn (M a))) := by
  refine Ct.ofV (by decide) (Nat.le_of_ble_eq_true rfl) (by simp [Value.category]) (fun κ => ?_)
  refine V.aload_n dX4_turnInsideOut_0 rfl ?_
  refine V.aload_n dX4_turnInsideOut_1 rfl ?_
  refine V.callV (ci := 3) (T := TX4) (N := 8) dX4_turnInsideOut_2 (c_X4_lower hI ha la (by omega)) lkX4_66 im_X4_lower se_X4_lower cd_X4_lower ini_X4 rfl (by first | assumption | exact hI _ (by omega)) rfl hd_X4_lower ⟨Nat.le_of_ble_eq_true rfl, Nat.le_of_ble_eq_true rfl⟩ rfl (Nat.le_of_ble_eq_true rfl) (V.kkN ?_)
  refine V.aload_n dX4_turnInsideOut_5 rfl ?_
  refine V.aload_n dX4_turnInsideOut_6 rfl ?_
  refine V.getf (ci := 3) (k := 6) (C := RX4) (T := TX4) (N := 8) dX4_turnInsideOut_7 lfX4_30 inX4 rfl (by first | assumption | exact hI _ (by omega)) rfl (by decide) rfl ?_
  refine V.aload_n dX4_turnInsideOut_10 rfl ?_
  refine V.getf (ci := 3) (k := 5) (C := RX4) (T := TX4) (N := 8) dX4_turnInsideOut_11 lfX4_27 inX4 rfl (by first | assumption | exact hI _ (by omega)) rfl (by decide) rfl ?_
  refine V.callV (ci := 3) (T := TX4) (N := 8) dX4_turnInsideOut_14 (c_X4_overSeries (hI 1 (by decide)) (hI 8 (by decide)) rfl (hI 7 (by decide)) rfl (by decide)) lkX4_70 im_X4_overSeries se_X4_overSeries cd_X4_overSeries ini_X4 rfl (by first | assumption | exact hI _ (by omega)) rfl hd_X4_overSeries ⟨Nat.le_of_ble_eq_true rfl, Nat.le_of_ble_eq_true rfl⟩ rfl (Nat.le_of_ble_eq_true rfl) (V.kkN ?_)
  refine V.aload_n dX4_turnInsideOut_17 rfl ?_
  refine V.getf (ci := 3) (k := 7) (C := RX4) (T := TX4) (N := 8) dX4_turnInsideOut_18 lfX4_33 inX4 rfl (by first | assumption | exact hI _ (by omega)) rfl (by decide) rfl ?_
  refine V.iconst (v := nI 0) dX4_turnInsideOut_21 rfl ?_
  refine V.iconst (v := nI 1) dX4_turnInsideOut_22 rfl ?_
  refine V.callSN dX4_turnInsideOut_23 (c_X7_setMonomial (k := 0) (hI 9 (by decide)) rfl (by decide)) nlX4_52 st_X7_setMonomial cd_X7_setMonomial ini_X7 hd_X7_setMonomial ⟨Nat.le_of_ble_eq_true rfl, Nat.le_of_ble_eq_true rfl⟩ rfl (Nat.le_of_ble_eq_true rfl) (V.kkN ?_)
  refine V.aload_n dX4_turnInsideOut_26 rfl ?_
  refine V.getf (ci := 3) (k := 4) (C := RX4) (T := TX4) (N := 8) dX4_turnInsideOut_27 lfX4_24 inX4 rfl (by first | assumption | exact hI _ (by omega)) rfl (by decide) rfl ?_
  refine V.astore_n dX4_turnInsideOut_30 (by decide) ?_
  refine V.aload_n dX4_turnInsideOut_31 rfl ?_
  refine V.iconst (v := nI 0) dX4_turnInsideOut_32 rfl ?_
  refine V.iconst (v := nI 0) dX4_turnInsideOut_33 rfl ?_
  refine V.iast (n := 9) dX4_turnInsideOut_34 (by first | assumption | exact hI _ (by omega)) (by first | assumption | decide) (by omega) ?_
  refine V.iconst (v := nI 1) dX4_turnInsideOut_35 rfl ?_
  refine V.istore dX4_turnInsideOut_36 (by decide) ?_
  have lp := up_loop 9 (fun n => ∀ M1, keep (fun j => j = i ∨ (6 ≤ j ∧ j ≤ 9)) M M1 → eq9 (M1 8) (fover (flow (M a))) → eq9 (M1 9) (fpow (fover (flow (M a))) (n - 1)) → (∀ k, k < n → M1 6 k = fturn (M a) k) → 1 ≤ n → v_X4_turnInsideOut g κ (Qm g κ (fun v M' => v = none ∧ keep (fun j => j = i ∨ (6 ≤ j ∧ j ≤ 9)) M M' ∧ eq9 (M' i) (fturn (M a)))) M1 38 [some (.ref (g.2.2.2.1 1)), some (.ref (g.2.2.2.1 i)), some (.ref (g.2.2.2.1 a)), some (.ref (g.2.2.2.1 6)), some (.int (nI n))] []) (fun n hn ih M1 k1 k2 k3 k4 hn1 => ?_) 1 (by omega)
  · refine lp _ ?_ ?_ ?_ ?_ (by decide)
    · exact (((keep.rf.as (by omega)).as (by omega)).as (by omega)).ms (by omega)
    · rw [mset_ne (by decide), aset_ne (by decide)]
      exact aset_9.tr (fover_cg aset_9)
    · rw [mset_ne (by decide)]
      exact aset_9
    · intro k hk
      rw [show k = 0 by omega, mset_at]; rfl
  · refine V.iload dX4_turnInsideOut_38 rfl ?_
    refine V.bipush (v := nI 9) dX4_turnInsideOut_40 (by decide) ?_
    refine V.geN (tgt := 88) dX4_turnInsideOut_42 (by decide) (by omega) (by omega) (fun h1 => ?_) (fun h1 => ?_)
    · have e : n = 9 := by omega
      subst e
      refine V.aload_n dX4_turnInsideOut_88 rfl ?_
      refine V.aload_n dX4_turnInsideOut_89 rfl ?_
      refine V.callSN dX4_turnInsideOut_90 (c_X7_copy (hI 6 (by decide)) hi rfl li) nlX4_62 st_X7_copy cd_X7_copy ini_X7 hd_X7_copy ⟨Nat.le_of_ble_eq_true rfl, Nat.le_of_ble_eq_true rfl⟩ rfl (Nat.le_of_ble_eq_true rfl) (V.kkN ?_)
      refine V.vret dX4_turnInsideOut_93 ?_
      exact ⟨rfl, k1.as (Or.inl rfl), aset_9.tr (fun k hk => k4 k hk)⟩
    · refine V.aload_n dX4_turnInsideOut_45 rfl ?_
      refine V.aload_n dX4_turnInsideOut_46 rfl ?_
      refine V.getf (ci := 3) (k := 7) (C := RX4) (T := TX4) (N := 8) dX4_turnInsideOut_47 lfX4_33 inX4 rfl (by first | assumption | exact hI _ (by omega)) rfl (by decide) rfl ?_
      refine V.aload_n dX4_turnInsideOut_50 rfl ?_
      refine V.getf (ci := 3) (k := 7) (C := RX4) (T := TX4) (N := 8) dX4_turnInsideOut_51 lfX4_33 inX4 rfl (by first | assumption | exact hI _ (by omega)) rfl (by decide) rfl ?_
      refine V.aload_n dX4_turnInsideOut_54 rfl ?_
      refine V.getf (ci := 3) (k := 6) (C := RX4) (T := TX4) (N := 8) dX4_turnInsideOut_55 lfX4_30 inX4 rfl (by first | assumption | exact hI _ (by omega)) rfl (by decide) rfl ?_
      refine V.callV (ci := 3) (T := TX4) (N := 8) dX4_turnInsideOut_58 (c_X4_multiply (hI 9 (by decide)) rfl (hI 9 (by decide)) rfl (hI 8 (by decide)) rfl) lkX4_60 im_X4_multiply se_X4_multiply cd_X4_multiply ini_X4 rfl (by first | assumption | exact hI _ (by omega)) rfl hd_X4_multiply ⟨Nat.le_of_ble_eq_true rfl, Nat.le_of_ble_eq_true rfl⟩ rfl (Nat.le_of_ble_eq_true rfl) (V.kkN ?_)
      refine V.aload_n dX4_turnInsideOut_61 rfl ?_
      refine V.iload dX4_turnInsideOut_62 rfl ?_
      refine V.aload_n dX4_turnInsideOut_64 rfl ?_
      refine V.getf (ci := 3) (k := 7) (C := RX4) (T := TX4) (N := 8) dX4_turnInsideOut_65 lfX4_33 inX4 rfl (by first | assumption | exact hI _ (by omega)) rfl (by decide) rfl ?_
      refine V.iload dX4_turnInsideOut_68 rfl ?_
      refine V.iconst (v := nI 1) dX4_turnInsideOut_70 rfl ?_
      first | refine V.isubN dX4_turnInsideOut_71 (by omega) ?_ | refine V.isub dX4_turnInsideOut_71 ?_
      refine V.iald (n := 9) dX4_turnInsideOut_72 (by first | assumption | exact hI _ (by omega)) (by first | assumption | decide) (by omega) ?_
      refine V.iload dX4_turnInsideOut_73 rfl ?_
      refine V.callS dX4_turnInsideOut_75 (c_X2_inverse) lkX4_36 st_X2_inverse cd_X2_inverse ini_X2 hd_X2_inverse ⟨Nat.le_of_ble_eq_true rfl, Nat.le_of_ble_eq_true rfl⟩ rfl (Nat.le_of_ble_eq_true rfl) (V.kkF ?_)
      refine V.callS dX4_turnInsideOut_78 (c_X2_multiply) lkX4_42 st_X2_multiply cd_X2_multiply ini_X2 hd_X2_multiply ⟨Nat.le_of_ble_eq_true rfl, Nat.le_of_ble_eq_true rfl⟩ rfl (Nat.le_of_ble_eq_true rfl) (V.kkF ?_)
      refine V.iast (n := 9) dX4_turnInsideOut_81 (by first | assumption | exact hI _ (by omega)) (by first | assumption | decide) (by omega) ?_
      refine V.iincN dX4_turnInsideOut_82 (by decide) rfl ?_
      refine V.goto (tgt := 38) dX4_turnInsideOut_85 (by decide) ?_
      have p9 : eq9 (fprod (M1 9) (M1 8)) (fpow (fover (flow (M a))) n) := by
        have e := fprod_cg k3 k2
        have e2 : fprod (fpow (fover (flow (M a))) (n - 1)) (fover (flow (M a))) = fpow (fover (flow (M a))) (n - 1 + 1) := rfl
        rw [e2, show n - 1 + 1 = n by omega] at e
        exact e
      refine ih (by omega) _ ((k1.as (by omega)).ms (by omega)) ?_ ?_ ?_ (by omega)
      · rw [mset_ne (by decide), aset_ne (by decide)]; exact k2
      · rw [mset_ne (by decide)]; exact aset_9.tr p9
      · intro k hk
        by_cases e : k = n
        · subst e
          rw [mset_at, aset_9 (k - 1) (by omega), p9 (k - 1) (by omega)]
          unfold fturn; rw [if_neg (by omega)]
        · rw [mset_nat e, aset_ne (by decide)]; exact k4 k (by omega)
abbrev v_X4_untakeBy (g : Gl) (κ : Ka) (Q : State → Prop) (M : Mem) (pc : Nat) (L : List (Option Value)) (st : List Value) : Prop := V g cX4_untakeBy 4 yX4_untakeBy.cls none (rmd 3) Q κ M pc L st
theorem c_X4_untakeBy {g : Gl} {M : Mem} {i a : Nat} (hI : ∀ i, 1 ≤ i ∧ i ≤ 9 → i ∈ g.2.2.2.2) (hi : i ∈ g.2.2.2.2) (li : ial i = 9) (ha : a ∈ g.2.2.2.2) (la : ial a = 9) (hi6 : ¬ (1 ≤ i ∧ i ≤ 9)) (ha6 : ¬ (6 ≤ a ∧ a ≤ 9)) (hne : a ≠ i) : Ct g yX4_untakeBy cX4_untakeBy 4 none 3 [.ref (g.2.2.2.1 1), .ref (g.2.2.2.1 i), .ref (g.2.2.2.1 a)] M (fun v M' => v = none ∧ keep (fun j => j = i ∨ (6 ≤ j ∧ j ≤ 9)) M M' ∧ eq9 (M' i) (funtake (M 5) (M 2) (M i) (M a))) := by
  refine Ct.ofV (by decide) (Nat.le_of_ble_eq_true rfl) (by simp [Value.category]) (fun κ => ?_)
  refine V.aload_n dX4_untakeBy_0 rfl ?_
  refine V.aload_n dX4_untakeBy_1 rfl ?_
  refine V.callV (ci := 3) (T := TX4) (N := 8) dX4_untakeBy_2 (c_X4_lower hI ha la (by omega)) lkX4_66 im_X4_lower se_X4_lower cd_X4_lower ini_X4 rfl (by first | assumption | exact hI _ (by omega)) rfl hd_X4_lower ⟨Nat.le_of_ble_eq_true rfl, Nat.le_of_ble_eq_true rfl⟩ rfl (Nat.le_of_ble_eq_true rfl) (V.kkN ?_)
  refine V.aload_n dX4_untakeBy_5 rfl ?_
  refine V.aload_n dX4_untakeBy_6 rfl ?_
  refine V.getf (ci := 3) (k := 6) (C := RX4) (T := TX4) (N := 8) dX4_untakeBy_7 lfX4_30 inX4 rfl (by first | assumption | exact hI _ (by omega)) rfl (by decide) rfl ?_
  refine V.aload_n dX4_untakeBy_10 rfl ?_
  refine V.getf (ci := 3) (k := 5) (C := RX4) (T := TX4) (N := 8) dX4_untakeBy_11 lfX4_27 inX4 rfl (by first | assumption | exact hI _ (by omega)) rfl (by decide) rfl ?_
  refine V.callV (ci := 3) (T := TX4) (N := 8) dX4_untakeBy_14 (c_X4_overSeries (hI 1 (by decide)) (hI 8 (by decide)) rfl (hI 7 (by decide)) rfl (by decide)) lkX4_70 im_X4_overSeries se_X4_overSeries cd_X4_overSeries ini_X4 rfl (by first | assumption | exact hI _ (by omega)) rfl hd_X4_overSeries ⟨Nat.le_of_ble_eq_true rfl, Nat.le_of_ble_eq_true rfl⟩ rfl (Nat.le_of_ble_eq_true rfl) (V.kkN ?_)
  refine V.aload_n dX4_untakeBy_17 rfl ?_
  refine V.aload_n dX4_untakeBy_18 rfl ?_
  refine V.aload_n dX4_untakeBy_19 rfl ?_
  refine V.getf (ci := 3) (k := 6) (C := RX4) (T := TX4) (N := 8) dX4_untakeBy_20 lfX4_30 inX4 rfl (by first | assumption | exact hI _ (by omega)) rfl (by decide) rfl ?_
  refine V.callV (ci := 3) (T := TX4) (N := 8) dX4_untakeBy_23 (c_X4_takeBy hI hi li (hI 8 (by decide)) rfl (by omega) (by omega) (by omega)) lkX4_73 im_X4_takeBy se_X4_takeBy cd_X4_takeBy ini_X4 rfl (by first | assumption | exact hI _ (by omega)) rfl hd_X4_takeBy ⟨Nat.le_of_ble_eq_true rfl, Nat.le_of_ble_eq_true rfl⟩ rfl (Nat.le_of_ble_eq_true rfl) (V.kkN ?_)
  refine V.aload_n dX4_untakeBy_26 rfl ?_
  refine V.callSN dX4_untakeBy_27 (c_X7_moveUp hi li) nlX4_76 st_X7_moveUp cd_X7_moveUp ini_X7 hd_X7_moveUp ⟨Nat.le_of_ble_eq_true rfl, Nat.le_of_ble_eq_true rfl⟩ rfl (Nat.le_of_ble_eq_true rfl) (V.kkN ?_)
  refine V.iconst (v := nI 1) dX4_untakeBy_30 rfl ?_
  refine V.istore_n dX4_untakeBy_31 (by decide) ?_
  have lp := up_loop 9 (fun n => ∀ M1, keep (fun j => j = i ∨ (6 ≤ j ∧ j ≤ 9)) M M1 → (∀ k, n ≤ k → k < 9 → M1 i k = fup (ftake (M 5) (M 2) (M i) (fover (flow (M a)))) k) → (∀ k, k < n → M1 i k = funtake (M 5) (M 2) (M i) (M a) k) → 1 ≤ n → v_X4_untakeBy g κ (Qm g κ (fun v M' => v = none ∧ keep (fun j => j = i ∨ (6 ≤ j ∧ j ≤ 9)) M M' ∧ eq9 (M' i) (funtake (M 5) (M 2) (M i) (M a)))) M1 32 [some (.ref (g.2.2.2.1 1)), some (.ref (g.2.2.2.1 i)), some (.ref (g.2.2.2.1 a)), some (.int (nI n))] []) (fun n hn ih M1 k1 k2 k3 hn1 => ?_) 1 (by omega)
  · have e8 : eq9 (aset (aset M 7 0 9 (flow (M a))) 8 0 9 (fover (aset M 7 0 9 (flow (M a)) 7)) 8) (fover (flow (M a))) := aset_9.tr (fover_cg aset_9)
    have e5 : aset (aset M 7 0 9 (flow (M a))) 8 0 9 (fover (aset M 7 0 9 (flow (M a)) 7)) 5 = M 5 := by rw [aset_ne (by decide), aset_ne (by decide)]
    have e2 : aset (aset M 7 0 9 (flow (M a))) 8 0 9 (fover (aset M 7 0 9 (flow (M a)) 7)) 2 = M 2 := by rw [aset_ne (by decide), aset_ne (by decide)]
    have ei : aset (aset M 7 0 9 (flow (M a))) 8 0 9 (fover (aset M 7 0 9 (flow (M a)) 7)) i = M i := by rw [aset_ne (by omega), aset_ne (by omega)]
    have ef := fup_cg (aset_9.tr (ftake_cg (fa := M 5) (ex := M 2) (p := M i) eq9.rf eq9.rf eq9.rf e8) : eq9 (aset (aset (aset M 7 0 9 (flow (M a))) 8 0 9 (fover (aset M 7 0 9 (flow (M a)) 7))) i 0 9 (ftake (M 5) (M 2) (M i) (aset (aset M 7 0 9 (flow (M a))) 8 0 9 (fover (aset M 7 0 9 (flow (M a)) 7)) 8)) i) _)
    rw [e5, e2, ei]
    refine lp _ ?_ ?_ ?_ (by decide)
    · exact (((keep.rf.as (by omega)).as (by omega)).as (by omega)).as (by omega)
    · intro k hk hk9
      rw [aset_9 k hk9]; exact ef k hk9
    · intro k hk
      rw [show k = 0 by omega, aset_9 0 (by decide), ef 0 (by decide)]; unfold funtake fint; rw [if_pos rfl]
  · refine V.iload_n dX4_untakeBy_32 rfl ?_
    refine V.bipush (v := nI 9) dX4_untakeBy_33 (by decide) ?_
    refine V.geN (tgt := 57) dX4_untakeBy_35 (by decide) (by omega) (by omega) (fun h1 => ?_) (fun h1 => ?_)
    · have e : n = 9 := by omega
      subst e
      refine V.vret dX4_untakeBy_57 ?_
      exact ⟨rfl, k1, fun k hk => k3 k hk⟩
    · refine V.aload_n dX4_untakeBy_38 rfl ?_
      refine V.iload_n dX4_untakeBy_39 rfl ?_
      refine V.aload_n dX4_untakeBy_40 rfl ?_
      refine V.iload_n dX4_untakeBy_41 rfl ?_
      refine V.iald (n := 9) dX4_untakeBy_42 (by first | assumption | exact hI _ (by omega)) (by first | assumption | decide) (by omega) ?_
      refine V.iload_n dX4_untakeBy_43 rfl ?_
      refine V.callS dX4_untakeBy_44 (c_X2_inverse) lkX4_36 st_X2_inverse cd_X2_inverse ini_X2 hd_X2_inverse ⟨Nat.le_of_ble_eq_true rfl, Nat.le_of_ble_eq_true rfl⟩ rfl (Nat.le_of_ble_eq_true rfl) (V.kkF ?_)
      refine V.callS dX4_untakeBy_47 (c_X2_multiply) lkX4_42 st_X2_multiply cd_X2_multiply ini_X2 hd_X2_multiply ⟨Nat.le_of_ble_eq_true rfl, Nat.le_of_ble_eq_true rfl⟩ rfl (Nat.le_of_ble_eq_true rfl) (V.kkF ?_)
      refine V.iast (n := 9) dX4_untakeBy_50 (by first | assumption | exact hI _ (by omega)) (by first | assumption | decide) (by omega) ?_
      refine V.iincN dX4_untakeBy_51 (by decide) rfl ?_
      refine V.goto (tgt := 32) dX4_untakeBy_54 (by decide) ?_
      refine ih (by omega) _ (k1.ms (Or.inl rfl)) ?_ ?_ (by omega)
      · intro k hk hk9
        rw [mset_nat (by omega)]; exact k2 k (by omega) hk9
      · intro k hk
        by_cases e : k = n
        · subst e
          rw [mset_at, k2 k (Nat.le_refl _) (by omega)]
          by_cases h0 : k = 0
          · omega
          · simp only [funtake, fint, h0, if_false]
        · rw [mset_nat e]; exact k3 k (by omega)
abbrev v_X4_tellPolynomials (g : Gl) (κ : Ka) (Q : State → Prop) (M : Mem) (pc : Nat) (L : List (Option Value)) (st : List Value) : Prop := V g cX4_tellPolynomials 7 yX4_tellPolynomials.cls none (rmd 2) Q κ M pc L st
theorem c_X4_tellPolynomials {g : Gl} {M : Mem} {q a b : Nat} (hI : ∀ i, 1 ≤ i ∧ i ≤ 9 → i ∈ g.2.2.2.2) (hq : q ∈ g.2.2.2.2) (hO : ∀ M, cont g.2.2.1 g.2.2.2.1 M q = rarr (g.2.2.1 2) 9 (fun j => g.2.2.2.1 (q + 1 + j))) (hin : ∀ j, j < 9 → q + 1 + j ∈ g.2.2.2.2 ∧ ial (q + 1 + j) = 9) (ha : a ∈ g.2.2.2.2) (la : ial a = 9) (hb : b ∈ g.2.2.2.2) (lb : ial b = 9) (h9 : 9 < q) (ha9 : a ≠ 9) (hb9 : b ≠ 9) (hbq : ¬ (q < b ∧ b ≤ q + 9)) : Ct g yX4_tellPolynomials cX4_tellPolynomials 7 none 2 [.ref (g.2.2.2.1 1), .ref (g.2.2.2.1 q), .ref (g.2.2.2.1 a), .ref (g.2.2.2.1 b)] M (fun v M' => v = none ∧ keep (fun j => j = 9 ∨ (q < j ∧ j ≤ q + 9)) M M' ∧ ∀ n k, n < 9 → k < 9 → M' (q + 1 + n) k = fpol (M 5) (M 2) (M a) (M b) n k) := by
  refine Ct.ofV (by decide) (Nat.le_of_ble_eq_true rfl) (by simp [Value.category]) (fun κ => ?_)
  refine V.aload_n dX4_tellPolynomials_0 rfl ?_
  refine V.aload_n dX4_tellPolynomials_1 rfl ?_
  refine V.getf (ci := 3) (k := 7) (C := RX4) (T := TX4) (N := 8) dX4_tellPolynomials_2 lfX4_33 inX4 rfl (by first | assumption | exact hI _ (by omega) | exact (hin _ (by omega)).1) rfl (by decide) rfl ?_
  refine V.callSN dX4_tellPolynomials_5 (c_X7_copy ha (hI 9 (by decide)) la rfl) nlX4_62 st_X7_copy cd_X7_copy ini_X7 hd_X7_copy ⟨Nat.le_of_ble_eq_true rfl, Nat.le_of_ble_eq_true rfl⟩ rfl (Nat.le_of_ble_eq_true rfl) (V.kkN ?_)
  refine V.iconst (v := nI 0) dX4_tellPolynomials_8 rfl ?_
  refine V.istore dX4_tellPolynomials_9 (by decide) ?_
  have lp := up_loop 9 (fun k => ∀ M1 x5 x6, keep (fun j => j = 9 ∨ (q < j ∧ j ≤ q + 9)) M M1 → eq9 (M1 9) (fpol.tpow (M a) (M b) k) → (∀ n k', n < 9 → k' < k → M1 (q + 1 + n) k' = fpol (M 5) (M 2) (M a) (M b) n k') → v_X4_tellPolynomials g κ (Qm g κ (fun v M' => v = none ∧ keep (fun j => j = 9 ∨ (q < j ∧ j ≤ q + 9)) M M' ∧ ∀ n k, n < 9 → k < 9 → M' (q + 1 + n) k = fpol (M 5) (M 2) (M a) (M b) n k)) M1 11 [some (.ref (g.2.2.2.1 1)), some (.ref (g.2.2.2.1 q)), some (.ref (g.2.2.2.1 a)), some (.ref (g.2.2.2.1 b)), some (.int (nI k)), x5, x6] []) (fun k hk ih M1 x5 x6 k1 k2 k3 => ?_) 0 (by omega)
  · exact lp _ _ _ (keep.rf.as (Or.inl rfl)) aset_9 (fun n k' _ h => by omega)
  · refine V.iload dX4_tellPolynomials_11 rfl ?_
    refine V.bipush (v := nI 9) dX4_tellPolynomials_13 (by decide) ?_
    refine V.geN (tgt := 91) dX4_tellPolynomials_15 (by decide) (by omega) (by omega) (fun h1 => ?_) (fun h1 => ?_)
    · have e : k = 9 := by omega
      subst e
      refine V.vret dX4_tellPolynomials_91 ?_
      exact ⟨rfl, k1, fun n k' hn hk' => k3 n k' hn hk'⟩
    · refine V.iconst (v := nI 0) dX4_tellPolynomials_18 rfl ?_
      refine V.istore dX4_tellPolynomials_19 (by decide) ?_
      have l2 := up_loop 9 (fun n => ∀ M2 x6, keep (fun j => j = 9 ∨ (q < j ∧ j ≤ q + 9)) M M2 → eq9 (M2 9) (fpol.tpow (M a) (M b) k) → (∀ n' k', n' < 9 → (k' < k ∨ (k' = k ∧ n' < n)) → M2 (q + 1 + n') k' = fpol (M 5) (M 2) (M a) (M b) n' k') → v_X4_tellPolynomials g κ (Qm g κ (fun v M' => v = none ∧ keep (fun j => j = 9 ∨ (q < j ∧ j ≤ q + 9)) M M' ∧ ∀ n k, n < 9 → k < 9 → M' (q + 1 + n) k = fpol (M 5) (M 2) (M a) (M b) n k)) M2 21 [some (.ref (g.2.2.2.1 1)), some (.ref (g.2.2.2.1 q)), some (.ref (g.2.2.2.1 a)), some (.ref (g.2.2.2.1 b)), some (.int (nI k)), some (.int (nI n)), x6] []) (fun n hn in2 M2 x6 j1 j2 j3 => ?_) 0 (by omega)
      · exact l2 M1 _ k1 k2 (fun n' k' hn' h => k3 n' k' hn' (by omega))
      · refine V.iload dX4_tellPolynomials_21 rfl ?_
        refine V.bipush (v := nI 9) dX4_tellPolynomials_23 (by decide) ?_
        refine V.geN (tgt := 72) dX4_tellPolynomials_25 (by decide) (by omega) (by omega) (fun h2 => ?_) (fun h2 => ?_)
        · have e : n = 9 := by omega
          subst e
          refine V.aload_n dX4_tellPolynomials_72 rfl ?_
          refine V.aload_n dX4_tellPolynomials_73 rfl ?_
          refine V.getf (ci := 3) (k := 7) (C := RX4) (T := TX4) (N := 8) dX4_tellPolynomials_74 lfX4_33 inX4 rfl (by first | assumption | exact hI _ (by omega) | exact (hin _ (by omega)).1) rfl (by decide) rfl ?_
          refine V.aload_n dX4_tellPolynomials_77 rfl ?_
          refine V.getf (ci := 3) (k := 7) (C := RX4) (T := TX4) (N := 8) dX4_tellPolynomials_78 lfX4_33 inX4 rfl (by first | assumption | exact hI _ (by omega) | exact (hin _ (by omega)).1) rfl (by decide) rfl ?_
          refine V.aload_n dX4_tellPolynomials_81 rfl ?_
          refine V.callV (ci := 3) (T := TX4) (N := 8) dX4_tellPolynomials_82 (c_X4_multiply (hI 9 (by decide)) rfl (hI 9 (by decide)) rfl hb lb) lkX4_60 im_X4_multiply se_X4_multiply cd_X4_multiply ini_X4 rfl (by first | assumption | exact hI _ (by omega) | exact (hin _ (by omega)).1) rfl hd_X4_multiply ⟨Nat.le_of_ble_eq_true rfl, Nat.le_of_ble_eq_true rfl⟩ rfl (Nat.le_of_ble_eq_true rfl) (V.kkN ?_)
          refine V.iincN dX4_tellPolynomials_85 (by decide) rfl ?_
          refine V.goto (tgt := 11) dX4_tellPolynomials_88 (by decide) ?_
          refine ih (by omega) _ _ _ (j1.as (Or.inl rfl)) (aset_9.tr (fprod_cg j2 (by rw [j1 b (by omega)]; exact eq9.rf))) ?_
          intro n' k' hn' hk'
          rw [aset_ne (by omega)]
          exact j3 n' k' hn' (by omega)
        · refine V.aload_n dX4_tellPolynomials_28 rfl ?_
          refine V.getf (ci := 3) (k := 3) (C := RX4) (T := TX4) (N := 8) dX4_tellPolynomials_29 lfX4_21 inX4 rfl (by first | assumption | exact hI _ (by omega) | exact (hin _ (by omega)).1) rfl (by decide) rfl ?_
          refine V.iload dX4_tellPolynomials_32 rfl ?_
          refine V.iald (n := 9) dX4_tellPolynomials_34 (by first | assumption | exact hI _ (by omega) | exact (hin _ (by omega)).1) (by first | assumption | decide | exact (hin _ (by omega)).2) (by omega) ?_
          refine V.aload_n dX4_tellPolynomials_35 rfl ?_
          refine V.getf (ci := 3) (k := 0) (C := RX4) (T := TX4) (N := 8) dX4_tellPolynomials_36 lfX4_9 inX4 rfl (by first | assumption | exact hI _ (by omega) | exact (hin _ (by omega)).1) rfl (by decide) rfl ?_
          refine V.iload dX4_tellPolynomials_39 rfl ?_
          refine V.iald (n := 9) dX4_tellPolynomials_41 (by first | assumption | exact hI _ (by omega) | exact (hin _ (by omega)).1) (by first | assumption | decide | exact (hin _ (by omega)).2) (by omega) ?_
          refine V.callS dX4_tellPolynomials_42 (c_X2_multiply) lkX4_42 st_X2_multiply cd_X2_multiply ini_X2 hd_X2_multiply ⟨Nat.le_of_ble_eq_true rfl, Nat.le_of_ble_eq_true rfl⟩ rfl (Nat.le_of_ble_eq_true rfl) (V.kkF ?_)
          refine V.istore dX4_tellPolynomials_45 (by decide) ?_
          refine V.aload_n dX4_tellPolynomials_47 rfl ?_
          refine V.iload dX4_tellPolynomials_48 rfl ?_
          refine V.aald (n := 9) (t := 2) dX4_tellPolynomials_50 (by first | assumption | exact hI _ (by omega) | exact (hin _ (by omega)).1) (hO _) rfl rfl (by decide) (by omega) ?_
          refine V.iload dX4_tellPolynomials_51 rfl ?_
          refine V.iload dX4_tellPolynomials_53 rfl ?_
          refine V.aload_n dX4_tellPolynomials_55 rfl ?_
          refine V.getf (ci := 3) (k := 7) (C := RX4) (T := TX4) (N := 8) dX4_tellPolynomials_56 lfX4_33 inX4 rfl (by first | assumption | exact hI _ (by omega) | exact (hin _ (by omega)).1) rfl (by decide) rfl ?_
          refine V.iload dX4_tellPolynomials_59 rfl ?_
          refine V.iald (n := 9) dX4_tellPolynomials_61 (by first | assumption | exact hI _ (by omega) | exact (hin _ (by omega)).1) (by first | assumption | decide | exact (hin _ (by omega)).2) (by omega) ?_
          refine V.callS dX4_tellPolynomials_62 (c_X2_multiply) lkX4_42 st_X2_multiply cd_X2_multiply ini_X2 hd_X2_multiply ⟨Nat.le_of_ble_eq_true rfl, Nat.le_of_ble_eq_true rfl⟩ rfl (Nat.le_of_ble_eq_true rfl) (V.kkF ?_)
          refine V.iast (n := 9) dX4_tellPolynomials_65 (by first | assumption | exact hI _ (by omega) | exact (hin _ (by omega)).1) (by first | assumption | decide | exact (hin _ (by omega)).2) (by omega) ?_
          refine V.iincN dX4_tellPolynomials_66 (by decide) rfl ?_
          refine V.goto (tgt := 21) dX4_tellPolynomials_69 (by decide) ?_
          refine in2 (by omega) _ _ (j1.ms (Or.inr (by omega))) (by rw [mset_ne (by omega)]; exact j2) ?_
          intro n' k' hn' hk'
          by_cases e : n' = n
          · subst e
            by_cases e2 : k' = k
            · subst e2
              rw [mset_at, j1 5 (by omega), j1 2 (by omega), j2 n' (by omega)]; rfl
            · rw [mset_nat e2]; exact j3 n' k' hn' (by omega)
          · rw [mset_ne (by omega)]; exact j3 n' k' hn' (by omega)
end
section
/-! ===== rows ===== -/
def isRw (o : Nat) : Prop := ∃ r, r < 4 ∧ o = 34 + 17 * r
theorem cont_row {y : Nat → ClassId} {ad : Nat → Nat} {o : Nat} (h : isRw o) (M : Mem) : cont y ad M o = o_row ad o := by
  obtain ⟨r, hr, rfl⟩ := h
  match r, hr with
  | 0, _ => rfl
  | 1, _ => rfl
  | 2, _ => rfl
  | 3, _ => rfl
theorem cont_pols {y : Nat → ClassId} {ad : Nat → Nat} {o : Nat} (h : isRw o) (M : Mem) : cont y ad M (o + 5) = rarr (y 2) 9 (fun j => ad (o + 5 + 1 + j)) := by
  obtain ⟨r, hr, rfl⟩ := h
  match r, hr with
  | 0, _ => rfl
  | 1, _ => rfl
  | 2, _ => rfl
  | 3, _ => rfl
theorem ial_row {o : Nat} (h : isRw o) {i : Nat} (h1 : o < i) (h2 : i < o + 17) (h3 : i ≠ o + 5) : ial i = 9 := by
  obtain ⟨r, hr, rfl⟩ := h
  unfold ial
  rw [if_pos (by omega), if_neg (by omega), if_neg (by omega), if_neg (by omega), if_pos (by omega), if_neg (by omega), if_neg (by omega)]
theorem fpol_cg {a a' b b' c c' d d' : Nat → Int32} (ha : eq9 a a') (hb : eq9 b b') (hc : eq9 c c') (hd : eq9 d d') {n k : Nat} (hn : n < 9) (hk : k < 9) : fpol a b c d n k = fpol a' b' c' d' n k := by
  unfold fpol; rw [ha n hn, hb k hk, tpow_cg hc hd k n hn]
/-- place k of polynomial n of the row of two series -/
def fpolR (fa ex u f : Nat → Int32) (n k : Nat) : Int32 := fpol fa ex (fput (fover u) (fturn f)) (fturn f) n k
theorem fpolR_cg {a a' b b' u u' f f' : Nat → Int32} (ha : eq9 a a') (hb : eq9 b b') (hu : eq9 u u') (hf : eq9 f f') {n k : Nat} (hn : n < 9) (hk : k < 9) : fpolR a b u f n k = fpolR a' b' u' f' n k :=
  fpol_cg ha hb (fput_cg (fover_cg hu) (fturn_cg hf)) (fturn_cg hf) hn hk
/-- what follows from g and f of the row at o is reckoned -/
def rowOk (o : Nat) (M : Mem) : Prop := eq9 (M (o + 3)) (fover (M (o + 1))) ∧ eq9 (M (o + 4)) (fturn (M (o + 2))) ∧ ∀ n k, n < 9 → k < 9 → M (o + 6 + n) k = fpolR (M 5) (M 2) (M (o + 1)) (M (o + 2)) n k
/-- a polynomial told: what is left when the j highest are taken away -/
def trest (P : Nat → Nat → Int32) (p : Nat → Int32) : Nat → Nat → Int32
  | 0 => p
  | j + 1 => fax (trest P p j) (P (8 - j)) (fsub (nI 0) (fmul (trest P p j (8 - j)) (finv (P (8 - j) (8 - j)))))
def ftell (P : Nat → Nat → Int32) (p : Nat → Int32) : Nat → Int32 := fun n => fmul (trest P p (8 - n) n) (finv (P n n))
def gsum (P : Nat → Nat → Int32) (s : Nat → Int32) : Nat → Nat → Int32
  | 0 => mono 0 (nI 0)
  | n + 1 => fax (gsum P s n) (P n) (s n)
theorem fax_cg {p p' a a' : Nat → Int32} {c : Int32} (hp : eq9 p p') (ha : eq9 a a') : eq9 (fax p a c) (fax p' a' c) := fun k hk => by unfold fax; rw [hp k hk, ha k hk]
theorem trest_cg {P P' : Nat → Nat → Int32} {p p' : Nat → Int32} (hP : ∀ n, n < 9 → eq9 (P n) (P' n)) (hp : eq9 p p') : ∀ j, eq9 (trest P p j) (trest P' p' j)
  | 0 => hp
  | j + 1 => by
    simp only [trest]
    rw [trest_cg hP hp j (8 - j) (by omega), hP (8 - j) (by omega) (8 - j) (by omega)]
    exact fax_cg (trest_cg hP hp j) (hP (8 - j) (by omega))
theorem ftell_cg {P P' : Nat → Nat → Int32} {p p' : Nat → Int32} (hP : ∀ n, n < 9 → eq9 (P n) (P' n)) (hp : eq9 p p') : eq9 (ftell P p) (ftell P' p') := fun n hn => by
  unfold ftell; rw [trest_cg hP hp (8 - n) n hn, hP n hn n hn]
theorem gsum_cg {P P' : Nat → Nat → Int32} {s s' : Nat → Int32} (hP : ∀ n, n < 9 → eq9 (P n) (P' n)) (hs : eq9 s s') : ∀ n, n ≤ 9 → eq9 (gsum P s n) (gsum P' s' n)
  | 0, _ => eq9.rf
  | n + 1, h => by
    simp only [gsum]
    rw [hs n (by omega)]
    exact fax_cg (gsum_cg hP hs n (by omega)) (hP n (by omega))
def fsec (f : Nat → Int32) : Nat → Int32
  | 0 => -1
  | n + 1 => if f (8 - n) = 0 then fsec f n else nI (8 - n)
def fdeg (p : Nat → Int32) : Nat → Int32
  | 0 => -1
  | n + 1 => if p n = 0 then fdeg p n else nI n
def fsz (p : Nat → Int32) : Nat → Nat
  | 0 => 0
  | n + 1 => if p n = 0 then fsz p n else fsz p n + 1
theorem fsz_le (p : Nat → Int32) : ∀ n, fsz p n ≤ n
  | 0 => Nat.le_refl _
  | n + 1 => by
    have := fsz_le p n
    unfold fsz; split <;> omega
end
section
theorem c_X5_reckonAll {g : Gl} {M : Mem} {o : Nat} (ho : isRw o) (hI : ∀ i, 1 ≤ i ∧ i ≤ 9 → i ∈ g.2.2.2.2) (hJ : ∀ i, o ≤ i ∧ i < o + 17 → i ∈ g.2.2.2.2) : Ct g yX5_reckonAll cX5_reckonAll 1 none 4 [.ref (g.2.2.2.1 o)] M (fun v M' => v = none ∧ keep (fun j => (6 ≤ j ∧ j ≤ 9) ∨ (o + 3 ≤ j ∧ j < o + 16 ∧ j ≠ o + 5)) M M' ∧ rowOk o M') := by
  have h34 : 34 ≤ o := by obtain ⟨r, hr, e⟩ := ho; omega
  refine Ct.ofV (by decide) (Nat.le_of_ble_eq_true rfl) (by simp [Value.category]) (fun κ => ?_)
  refine V.aload_n dX5_reckonAll_0 rfl ?_
  refine V.getf (ci := 4) (k := 5) (C := RX5) (T := TX5) (N := 8) dX5_reckonAll_1 lfX5_35 inX5 rfl (by first | assumption | exact hI _ (by omega) | exact hJ _ (by omega)) (cont_row ho _) (by decide) rfl ?_
  refine V.aload_n dX5_reckonAll_4 rfl ?_
  refine V.getf (ci := 4) (k := 2) (C := RX5) (T := TX5) (N := 8) dX5_reckonAll_5 lfX5_18 inX5 rfl (by first | assumption | exact hI _ (by omega) | exact hJ _ (by omega)) (cont_row ho _) (by decide) rfl ?_
  refine V.aload_n dX5_reckonAll_8 rfl ?_
  refine V.getf (ci := 4) (k := 0) (C := RX5) (T := TX5) (N := 8) dX5_reckonAll_9 lfX5_9 inX5 rfl (by first | assumption | exact hI _ (by omega) | exact hJ _ (by omega)) (cont_row ho _) (by decide) rfl ?_
  refine V.callV (ci := 3) (T := TX4) (N := 8) dX5_reckonAll_12 (c_X4_overSeries (i := o + 3) (b := o + 1) (hI 1 (by decide)) (hJ _ (by omega)) (ial_row ho (by omega) (by omega) (by omega)) (hJ _ (by omega)) (ial_row ho (by omega) (by omega) (by omega)) (by omega)) lkX5_50 im_X4_overSeries se_X4_overSeries cd_X4_overSeries ini_X4 rfl (by first | assumption | exact hI _ (by omega) | exact hJ _ (by omega)) rfl hd_X4_overSeries ⟨Nat.le_of_ble_eq_true rfl, Nat.le_of_ble_eq_true rfl⟩ rfl (Nat.le_of_ble_eq_true rfl) (V.kkN ?_)
  refine V.aload_n dX5_reckonAll_15 rfl ?_
  refine V.getf (ci := 4) (k := 5) (C := RX5) (T := TX5) (N := 8) dX5_reckonAll_16 lfX5_35 inX5 rfl (by first | assumption | exact hI _ (by omega) | exact hJ _ (by omega)) (cont_row ho _) (by decide) rfl ?_
  refine V.aload_n dX5_reckonAll_19 rfl ?_
  refine V.getf (ci := 4) (k := 3) (C := RX5) (T := TX5) (N := 8) dX5_reckonAll_20 lfX5_21 inX5 rfl (by first | assumption | exact hI _ (by omega) | exact hJ _ (by omega)) (cont_row ho _) (by decide) rfl ?_
  refine V.aload_n dX5_reckonAll_23 rfl ?_
  refine V.getf (ci := 4) (k := 1) (C := RX5) (T := TX5) (N := 8) dX5_reckonAll_24 lfX5_15 inX5 rfl (by first | assumption | exact hI _ (by omega) | exact hJ _ (by omega)) (cont_row ho _) (by decide) rfl ?_
  refine V.callV (ci := 3) (T := TX4) (N := 8) dX5_reckonAll_27 (c_X4_turnInsideOut (i := o + 4) (a := o + 2) hI (hJ _ (by omega)) (ial_row ho (by omega) (by omega) (by omega)) (hJ _ (by omega)) (ial_row ho (by omega) (by omega) (by omega)) (by omega) (by omega)) lkX5_55 im_X4_turnInsideOut se_X4_turnInsideOut cd_X4_turnInsideOut ini_X4 rfl (by first | assumption | exact hI _ (by omega) | exact hJ _ (by omega)) rfl hd_X4_turnInsideOut ⟨Nat.le_of_ble_eq_true rfl, Nat.le_of_ble_eq_true rfl⟩ rfl (Nat.le_of_ble_eq_true rfl) (V.kkP (fun M2 q2 => ?_))
  refine V.aload_n dX5_reckonAll_30 rfl ?_
  refine V.getf (ci := 4) (k := 5) (C := RX5) (T := TX5) (N := 8) dX5_reckonAll_31 lfX5_35 inX5 rfl (by first | assumption | exact hI _ (by omega) | exact hJ _ (by omega)) (cont_row ho _) (by decide) rfl ?_
  refine V.aload_n dX5_reckonAll_34 rfl ?_
  refine V.getf (ci := 4) (k := 6) (C := RX5) (T := TX5) (N := 8) dX5_reckonAll_35 lfX5_29 inX5 rfl (by first | assumption | exact hI _ (by omega) | exact hJ _ (by omega)) (cont_row ho _) (by decide) rfl ?_
  refine V.aload_n dX5_reckonAll_38 rfl ?_
  refine V.getf (ci := 4) (k := 2) (C := RX5) (T := TX5) (N := 8) dX5_reckonAll_39 lfX5_18 inX5 rfl (by first | assumption | exact hI _ (by omega) | exact hJ _ (by omega)) (cont_row ho _) (by decide) rfl ?_
  refine V.aload_n dX5_reckonAll_42 rfl ?_
  refine V.getf (ci := 4) (k := 3) (C := RX5) (T := TX5) (N := 8) dX5_reckonAll_43 lfX5_21 inX5 rfl (by first | assumption | exact hI _ (by omega) | exact hJ _ (by omega)) (cont_row ho _) (by decide) rfl ?_
  refine V.callV (ci := 3) (T := TX4) (N := 8) dX5_reckonAll_46 (c_X4_putInside (i := o + 15) (a := o + 3) (b := o + 4) hI (hJ _ (by omega)) (ial_row ho (by omega) (by omega) (by omega)) (hJ _ (by omega)) (ial_row ho (by omega) (by omega) (by omega)) (hJ _ (by omega)) (ial_row ho (by omega) (by omega) (by omega)) (by omega) (by omega)) lkX5_58 im_X4_putInside se_X4_putInside cd_X4_putInside ini_X4 rfl (by first | assumption | exact hI _ (by omega) | exact hJ _ (by omega)) rfl hd_X4_putInside ⟨Nat.le_of_ble_eq_true rfl, Nat.le_of_ble_eq_true rfl⟩ rfl (Nat.le_of_ble_eq_true rfl) (V.kkN ?_)
  refine V.aload_n dX5_reckonAll_49 rfl ?_
  refine V.getf (ci := 4) (k := 5) (C := RX5) (T := TX5) (N := 8) dX5_reckonAll_50 lfX5_35 inX5 rfl (by first | assumption | exact hI _ (by omega) | exact hJ _ (by omega)) (cont_row ho _) (by decide) rfl ?_
  refine V.aload_n dX5_reckonAll_53 rfl ?_
  refine V.getf (ci := 4) (k := 4) (C := RX5) (T := TX5) (N := 8) dX5_reckonAll_54 lfX5_26 inX5 rfl (by first | assumption | exact hI _ (by omega) | exact hJ _ (by omega)) (cont_row ho _) (by decide) rfl ?_
  refine V.aload_n dX5_reckonAll_57 rfl ?_
  refine V.getf (ci := 4) (k := 6) (C := RX5) (T := TX5) (N := 8) dX5_reckonAll_58 lfX5_29 inX5 rfl (by first | assumption | exact hI _ (by omega) | exact hJ _ (by omega)) (cont_row ho _) (by decide) rfl ?_
  refine V.aload_n dX5_reckonAll_61 rfl ?_
  refine V.getf (ci := 4) (k := 3) (C := RX5) (T := TX5) (N := 8) dX5_reckonAll_62 lfX5_21 inX5 rfl (by first | assumption | exact hI _ (by omega) | exact hJ _ (by omega)) (cont_row ho _) (by decide) rfl ?_
  refine V.callV (ci := 3) (T := TX4) (N := 8) dX5_reckonAll_65 (c_X4_tellPolynomials (q := o + 5) (a := o + 15) (b := o + 4) hI (hJ _ (by omega)) (cont_pols ho) (fun j hj => ⟨hJ _ (by omega), ial_row ho (by omega) (by omega) (by omega)⟩) (hJ _ (by omega)) (ial_row ho (by omega) (by omega) (by omega)) (hJ _ (by omega)) (ial_row ho (by omega) (by omega) (by omega)) (by omega) (by omega) (by omega) (by omega)) lkX5_62 im_X4_tellPolynomials se_X4_tellPolynomials cd_X4_tellPolynomials ini_X4 rfl (by first | assumption | exact hI _ (by omega) | exact hJ _ (by omega)) rfl hd_X4_tellPolynomials ⟨Nat.le_of_ble_eq_true rfl, Nat.le_of_ble_eq_true rfl⟩ rfl (Nat.le_of_ble_eq_true rfl) (V.kkP (fun M4 q4 => ?_))
  refine V.vret dX5_reckonAll_68 ?_
  obtain ⟨k2, e2⟩ := q2
  obtain ⟨k4, e4⟩ := q4
  have r1 : ∀ i, ¬ (o + 3 ≤ i ∧ i < o + 16 ∧ i ≠ o + 5) → ¬ (6 ≤ i ∧ i ≤ 9) → M4 i = M i := fun i h1 h2 => by
    rw [k4 i (by omega), aset_ne (by omega), aset_ne (by omega), k2 i (by omega), aset_ne (by omega)]
  have m3 : M4 (o + 3) = aset M (o + 3) 0 9 (fover (M (o + 1))) (o + 3) := by rw [k4 _ (by omega), aset_ne (by omega), aset_ne (by omega), k2 _ (by omega)]
  have e3 : eq9 (M4 (o + 3)) (fover (M (o + 1))) := by rw [m3]; exact aset_9
  have m23 : M2 (o + 3) = M4 (o + 3) := by rw [m3, k2 _ (by omega)]
  have e24 : eq9 (M2 (o + 4)) (fturn (M (o + 2))) := by rw [aset_ne (by omega)] at e2; exact e2
  have e44 : eq9 (M4 (o + 4)) (fturn (M (o + 2))) := by rw [k4 _ (by omega), aset_ne (by omega), aset_ne (by omega)]; exact e24
  refine ⟨rfl, fun i hi => r1 i (by omega) (by omega), ?_, ?_, fun n k hn hk => ?_⟩
  · rw [r1 (o + 1) (by omega) (by omega)]; exact e3
  · rw [r1 (o + 2) (by omega) (by omega)]; exact e44
  · have := e4 n k hn hk
    rw [show o + 5 + 1 + n = o + 6 + n by omega] at this
    rw [this, r1 5 (by omega) (by omega), r1 2 (by omega) (by omega), r1 (o + 1) (by omega) (by omega), r1 (o + 2) (by omega) (by omega)]
    unfold fpolR
    refine fpol_cg ?_ ?_ ?_ ?_ hn hk
    · rw [aset_ne (by omega), aset_ne (by omega), k2 5 (by omega), aset_ne (by omega)]; exact eq9.rf
    · rw [aset_ne (by omega), aset_ne (by omega), k2 2 (by omega), aset_ne (by omega)]; exact eq9.rf
    · exact aset_9.tr (fput_cg (by rw [m23]; exact e3) e24)
    · rw [aset_ne (by omega), aset_ne (by omega)]; exact e24
theorem c_X5_become {g : Gl} {M : Mem} {o a b : Nat} (ho : isRw o) (hI : ∀ i, 1 ≤ i ∧ i ≤ 9 → i ∈ g.2.2.2.2) (hJ : ∀ i, o ≤ i ∧ i < o + 17 → i ∈ g.2.2.2.2) (ha : a ∈ g.2.2.2.2) (la : ial a = 9) (hb : b ∈ g.2.2.2.2) (lb : ial b = 9) (ha1 : ¬ (o ≤ a ∧ a < o + 17)) (hb1 : ¬ (o ≤ b ∧ b < o + 17)) : Ct g yX5_become cX5_become 3 (some .int) 5 [.ref (g.2.2.2.1 o), .ref (g.2.2.2.1 a), .ref (g.2.2.2.1 b)] M (fun v M' => v = some (.int (M b 1)) ∧ keep (fun j => (6 ≤ j ∧ j ≤ 9) ∨ (o + 1 ≤ j ∧ j < o + 16 ∧ j ≠ o + 5)) M M' ∧ rowOk o M' ∧ eq9 (M' (o + 1)) (M a) ∧ eq9 (M' (o + 2)) (M b)) := by
  have h34 : 34 ≤ o := by obtain ⟨r, hr, e⟩ := ho; omega
  refine Ct.ofV (by decide) (Nat.le_of_ble_eq_true rfl) (by simp [Value.category]) (fun κ => ?_)
  refine V.aload_n dX5_become_0 rfl ?_
  refine V.aload_n dX5_become_1 rfl ?_
  refine V.getf (ci := 4) (k := 0) (C := RX5) (T := TX5) (N := 8) dX5_become_2 lfX5_9 inX5 rfl (by first | assumption | exact hI _ (by omega) | exact hJ _ (by omega)) (cont_row ho _) (by decide) rfl ?_
  refine V.callSN dX5_become_5 (c_X7_copy ha (hJ (o + 1) (by omega)) la (ial_row ho (by omega) (by omega) (by omega))) nlX5_46 st_X7_copy cd_X7_copy ini_X7 hd_X7_copy ⟨Nat.le_of_ble_eq_true rfl, Nat.le_of_ble_eq_true rfl⟩ rfl (Nat.le_of_ble_eq_true rfl) (V.kkN ?_)
  refine V.aload_n dX5_become_8 rfl ?_
  refine V.aload_n dX5_become_9 rfl ?_
  refine V.getf (ci := 4) (k := 1) (C := RX5) (T := TX5) (N := 8) dX5_become_10 lfX5_15 inX5 rfl (by first | assumption | exact hI _ (by omega) | exact hJ _ (by omega)) (cont_row ho _) (by decide) rfl ?_
  refine V.callSN dX5_become_13 (c_X7_copy hb (hJ (o + 2) (by omega)) lb (ial_row ho (by omega) (by omega) (by omega))) nlX5_46 st_X7_copy cd_X7_copy ini_X7 hd_X7_copy ⟨Nat.le_of_ble_eq_true rfl, Nat.le_of_ble_eq_true rfl⟩ rfl (Nat.le_of_ble_eq_true rfl) (V.kkN ?_)
  refine V.aload_n dX5_become_16 rfl ?_
  refine V.callV (ci := 4) (T := TX5) (N := 8) dX5_become_17 (c_X5_reckonAll ho hI hJ) lkX5_43 im_X5_reckonAll se_X5_reckonAll cd_X5_reckonAll ini_X5 rfl (by first | assumption | exact hI _ (by omega) | exact hJ _ (by omega)) (cont_row ho _) hd_X5_reckonAll ⟨Nat.le_of_ble_eq_true rfl, Nat.le_of_ble_eq_true rfl⟩ rfl (Nat.le_of_ble_eq_true rfl) (V.kkP (fun M2 q2 => ?_))
  refine V.aload_n dX5_become_20 rfl ?_
  refine V.getf (ci := 4) (k := 1) (C := RX5) (T := TX5) (N := 8) dX5_become_21 lfX5_15 inX5 rfl (by first | assumption | exact hI _ (by omega) | exact hJ _ (by omega)) (cont_row ho _) (by decide) rfl ?_
  refine V.iconst (v := nI 1) dX5_become_24 rfl ?_
  refine V.iald (n := 9) dX5_become_25 (by first | assumption | exact hI _ (by omega) | exact hJ _ (by omega)) (by first | assumption | decide | exact ial_row ho (by omega) (by omega) (by omega)) (by omega) ?_
  refine V.iret dX5_become_26 ?_
  obtain ⟨k2, r2⟩ := q2
  have e1 : eq9 (M2 (o + 1)) (M a) := by rw [k2 _ (by omega), aset_ne (by omega)]; exact aset_9
  have e2 : eq9 (M2 (o + 2)) (M b) := by rw [k2 _ (by omega)]; exact aset_9.tr (by rw [aset_ne (by omega)]; exact eq9.rf)
  refine ⟨by rw [e2 1 (by omega)], fun i hi => ?_, r2, e1, e2⟩
  rw [k2 i (by omega), aset_ne (by omega), aset_ne (by omega)]
theorem c_X5_chosen {g : Gl} {M : Mem} {o k : Nat} (ho : isRw o) (hJ : ∀ i, o ≤ i ∧ i < o + 17 → i ∈ g.2.2.2.2) (hk : k < 4) : Ct g yX5_chosen cX5_chosen 2 (some (.array .int)) 0 [.ref (g.2.2.2.1 o), .int (nI k)] M (fun v M' => v = some (.ref (g.2.2.2.1 (o + 1 + k))) ∧ M' = M) := by
  refine Ct.ofV (by decide) (Nat.le_of_ble_eq_true rfl) (by simp [Value.category]) (fun κ => ?_)
  refine V.iload_n dX5_chosen_0 rfl ?_
  match k, hk with
  | 0, _ =>
    refine V.tableIn (tgt := 28) dX5_chosen_1 (by decide) (by decide) rfl (by decide) ?_
    refine V.aload_n dX5_chosen_28 rfl ?_
    refine V.getf (ci := 4) (k := 0) (C := RX5) (T := TX5) (N := 8) dX5_chosen_29 lfX5_9 inX5 rfl (by first | assumption | exact hI _ (by omega) | exact hJ _ (by omega)) (cont_row ho _) (by decide) rfl ?_
    refine V.aret dX5_chosen_32 ?_
    exact ⟨rfl, rfl⟩
  | 1, _ =>
    refine V.tableIn (tgt := 33) dX5_chosen_1 (by decide) (by decide) rfl (by decide) ?_
    refine V.aload_n dX5_chosen_33 rfl ?_
    refine V.getf (ci := 4) (k := 1) (C := RX5) (T := TX5) (N := 8) dX5_chosen_34 lfX5_15 inX5 rfl (by first | assumption | exact hI _ (by omega) | exact hJ _ (by omega)) (cont_row ho _) (by decide) rfl ?_
    refine V.aret dX5_chosen_37 ?_
    exact ⟨rfl, rfl⟩
  | 2, _ =>
    refine V.tableIn (tgt := 38) dX5_chosen_1 (by decide) (by decide) rfl (by decide) ?_
    refine V.aload_n dX5_chosen_38 rfl ?_
    refine V.getf (ci := 4) (k := 2) (C := RX5) (T := TX5) (N := 8) dX5_chosen_39 lfX5_18 inX5 rfl (by first | assumption | exact hI _ (by omega) | exact hJ _ (by omega)) (cont_row ho _) (by decide) rfl ?_
    refine V.aret dX5_chosen_42 ?_
    exact ⟨rfl, rfl⟩
  | 3, _ =>
    refine V.tableOut (tgt := 43) dX5_chosen_1 (by decide) (by decide) ?_
    refine V.aload_n dX5_chosen_43 rfl ?_
    refine V.getf (ci := 4) (k := 3) (C := RX5) (T := TX5) (N := 8) dX5_chosen_44 lfX5_21 inX5 rfl (by first | assumption | exact hI _ (by omega) | exact hJ _ (by omega)) (cont_row ho _) (by decide) rfl ?_
    refine V.aret dX5_chosen_47 ?_
    exact ⟨rfl, rfl⟩
abbrev v_X5_tell (g : Gl) (κ : Ka) (Q : State → Prop) (M : Mem) (pc : Nat) (L : List (Option Value)) (st : List Value) : Prop := V g cX5_tell 5 yX5_tell.cls none (rmd 2) Q κ M pc L st
theorem c_X5_tell {g : Gl} {M : Mem} {o i a : Nat} (ho : isRw o) (hJ : ∀ i, o ≤ i ∧ i < o + 17 → i ∈ g.2.2.2.2) (hi : i ∈ g.2.2.2.2) (li : ial i = 9) (ha : a ∈ g.2.2.2.2) (la : ial a = 9) (hi1 : ¬ (o ≤ i ∧ i < o + 17)) : Ct g yX5_tell cX5_tell 5 none 2 [.ref (g.2.2.2.1 o), .ref (g.2.2.2.1 i), .ref (g.2.2.2.1 a)] M (fun v M' => v = none ∧ keep (fun j => j = i ∨ j = o + 16) M M' ∧ eq9 (M' i) (ftell (fun n => M (o + 6 + n)) (M a))) := by
  refine Ct.ofV (by decide) (Nat.le_of_ble_eq_true rfl) (by simp [Value.category]) (fun κ => ?_)
  refine V.aload_n dX5_tell_0 rfl ?_
  refine V.aload_n dX5_tell_1 rfl ?_
  refine V.getf (ci := 4) (k := 7) (C := RX5) (T := TX5) (N := 8) dX5_tell_2 lfX5_32 inX5 rfl (by first | assumption | exact hI _ (by omega) | exact hJ _ (by omega)) (cont_row ho _) (by decide) rfl ?_
  refine V.callSN dX5_tell_5 (c_X7_copy ha (hJ (o + 16) (by omega)) la (ial_row ho (by omega) (by omega) (by omega))) nlX5_46 st_X7_copy cd_X7_copy ini_X7 hd_X7_copy ⟨Nat.le_of_ble_eq_true rfl, Nat.le_of_ble_eq_true rfl⟩ rfl (Nat.le_of_ble_eq_true rfl) (V.kkN ?_)
  refine V.bipush (v := nI 8) dX5_tell_8 (by decide) ?_
  refine V.istore_n dX5_tell_10 (by decide) ?_
  have lp := dn_loop (fun k => k ≤ 9 → ∀ M1 x4, keep (fun j => j = i ∨ j = o + 16) M M1 → eq9 (M1 (o + 16)) (trest (fun n => M (o + 6 + n)) (M a) (9 - k)) → (∀ n, k ≤ n → n < 9 → M1 i n = ftell (fun n => M (o + 6 + n)) (M a) n) → v_X5_tell g κ (Qm g κ (fun v M' => v = none ∧ keep (fun j => j = i ∨ j = o + 16) M M' ∧ eq9 (M' i) (ftell (fun n => M (o + 6 + n)) (M a)))) M1 11 [some (.ref (g.2.2.2.1 o)), some (.ref (g.2.2.2.1 i)), some (.ref (g.2.2.2.1 a)), some (.int (nI k - 1)), x4] []) (fun k ih hk M1 x4 k1 k2 k3 => ?_) 9 (by omega)
  · exact lp _ _ (keep.rf.as (Or.inr rfl)) aset_9 (fun n h1 h2 => by omega)
  · refine V.iload_n dX5_tell_11 rfl ?_
    refine V.if_ltD (tgt := 67) dX5_tell_12 (by decide) (by omega) (fun h1 => ?_) (fun j h1 => ?_)
    · subst h1
      refine V.vret dX5_tell_67 ?_
      exact ⟨rfl, k1, fun n hn => k3 n (Nat.zero_le _) hn⟩
    · subst h1
      rw [nI_pred]
      refine V.aload_n dX5_tell_15 rfl ?_
      refine V.getf (ci := 4) (k := 7) (C := RX5) (T := TX5) (N := 8) dX5_tell_16 lfX5_32 inX5 rfl (by first | assumption | exact hI _ (by omega) | exact hJ _ (by omega)) (cont_row ho _) (by decide) rfl ?_
      refine V.iload_n dX5_tell_19 rfl ?_
      refine V.iald (n := 9) dX5_tell_20 (by first | assumption | exact hI _ (by omega) | exact hJ _ (by omega)) (by first | assumption | decide | exact ial_row ho (by omega) (by omega) (by omega)) (by omega) ?_
      refine V.aload_n dX5_tell_21 rfl ?_
      refine V.getf (ci := 4) (k := 4) (C := RX5) (T := TX5) (N := 8) dX5_tell_22 lfX5_26 inX5 rfl (by first | assumption | exact hI _ (by omega) | exact hJ _ (by omega)) (cont_row ho _) (by decide) rfl ?_
      refine V.iload_n dX5_tell_25 rfl ?_
      refine V.aald (n := 9) (t := 2) dX5_tell_26 (by first | assumption | exact hI _ (by omega) | exact hJ _ (by omega)) (cont_pols ho _) rfl rfl (by decide) (by omega) ?_
      refine V.iload_n dX5_tell_27 rfl ?_
      refine V.iald (n := 9) dX5_tell_28 (by first | assumption | exact hI _ (by omega) | exact hJ _ (by omega)) (by first | assumption | decide | exact ial_row ho (by omega) (by omega) (by omega)) (by omega) ?_
      refine V.callS dX5_tell_29 (c_X2_inverse) lkX5_66 st_X2_inverse cd_X2_inverse ini_X2 hd_X2_inverse ⟨Nat.le_of_ble_eq_true rfl, Nat.le_of_ble_eq_true rfl⟩ rfl (Nat.le_of_ble_eq_true rfl) (V.kkF ?_)
      refine V.callS dX5_tell_32 (c_X2_multiply) lkX5_72 st_X2_multiply cd_X2_multiply ini_X2 hd_X2_multiply ⟨Nat.le_of_ble_eq_true rfl, Nat.le_of_ble_eq_true rfl⟩ rfl (Nat.le_of_ble_eq_true rfl) (V.kkF ?_)
      refine V.istore dX5_tell_35 (by decide) ?_
      refine V.aload_n dX5_tell_37 rfl ?_
      refine V.getf (ci := 4) (k := 7) (C := RX5) (T := TX5) (N := 8) dX5_tell_38 lfX5_32 inX5 rfl (by first | assumption | exact hI _ (by omega) | exact hJ _ (by omega)) (cont_row ho _) (by decide) rfl ?_
      refine V.aload_n dX5_tell_41 rfl ?_
      refine V.getf (ci := 4) (k := 4) (C := RX5) (T := TX5) (N := 8) dX5_tell_42 lfX5_26 inX5 rfl (by first | assumption | exact hI _ (by omega) | exact hJ _ (by omega)) (cont_row ho _) (by decide) rfl ?_
      refine V.iload_n dX5_tell_45 rfl ?_
      refine V.aald (n := 9) (t := 2) dX5_tell_46 (by first | assumption | exact hI _ (by omega) | exact hJ _ (by omega)) (cont_pols ho _) rfl rfl (by decide) (by omega) ?_
      refine V.iconst (v := nI 0) dX5_tell_47 rfl ?_
      refine V.iload dX5_tell_48 rfl ?_
      refine V.callS dX5_tell_50 (c_X2_subtract) lkX5_76 st_X2_subtract cd_X2_subtract ini_X2 hd_X2_subtract ⟨Nat.le_of_ble_eq_true rfl, Nat.le_of_ble_eq_true rfl⟩ rfl (Nat.le_of_ble_eq_true rfl) (V.kkF ?_)
      refine V.callSN dX5_tell_53 (c_X7_addMultiple (hJ (o + 16) (by omega)) (ial_row ho (by omega) (by omega) (by omega)) (hJ _ (by omega)) (ial_row ho (by omega) (by omega) (by omega)) (by omega)) nlX5_79 st_X7_addMultiple cd_X7_addMultiple ini_X7 hd_X7_addMultiple ⟨Nat.le_of_ble_eq_true rfl, Nat.le_of_ble_eq_true rfl⟩ rfl (Nat.le_of_ble_eq_true rfl) (V.kkN ?_)
      refine V.aload_n dX5_tell_56 rfl ?_
      refine V.iload_n dX5_tell_57 rfl ?_
      refine V.iload dX5_tell_58 rfl ?_
      refine V.iast (n := 9) dX5_tell_60 (by first | assumption | exact hI _ (by omega) | exact hJ _ (by omega)) (by first | assumption | decide | exact ial_row ho (by omega) (by omega) (by omega)) (by omega) ?_
      refine V.iincD dX5_tell_61 (by decide) rfl ?_
      refine V.goto (tgt := 11) dX5_tell_64 (by decide) ?_
      have ep : M1 (o + 5 + 1 + j) = M (o + 6 + j) := by rw [k1 _ (by omega), show o + 5 + 1 + j = o + 6 + j by omega]
      have es : fmul (M1 (o + 16) j) (finv (M1 (o + 5 + 1 + j) j)) = ftell (fun n => M (o + 6 + n)) (M a) j := by
        rw [ep, k2 j (by omega), show 9 - (j + 1) = 8 - j by omega]; rfl
      rw [es]
      refine ih j rfl (by omega) _ _ ((k1.as (Or.inr rfl)).ms (Or.inl rfl)) ?_ ?_
      · rw [mset_ne (by omega)]
        refine aset_9.tr ?_
        rw [ep, show 9 - j = (8 - j) + 1 by omega]
        simp only [trest]
        rw [show 8 - (8 - j) = j by omega]
        rw [show 9 - (j + 1) = 8 - j by omega] at k2
        exact fax_cg k2 eq9.rf
      · intro n h1 h2
        by_cases e : n = j
        · subst e; rw [mset_at]
        · rw [mset_nat e, aset_ne (by omega)]; exact k3 n (by omega) h2
abbrev v_X5_gather (g : Gl) (κ : Ka) (Q : State → Prop) (M : Mem) (pc : Nat) (L : List (Option Value)) (st : List Value) : Prop := V g cX5_gather 4 yX5_gather.cls none (rmd 2) Q κ M pc L st
theorem c_X5_gather {g : Gl} {M : Mem} {o i a : Nat} (ho : isRw o) (hJ : ∀ i, o ≤ i ∧ i < o + 17 → i ∈ g.2.2.2.2) (hi : i ∈ g.2.2.2.2) (li : ial i = 9) (ha : a ∈ g.2.2.2.2) (la : ial a = 9) (hi1 : ¬ (o ≤ i ∧ i < o + 17)) (hne : a ≠ i) : Ct g yX5_gather cX5_gather 4 none 2 [.ref (g.2.2.2.1 o), .ref (g.2.2.2.1 i), .ref (g.2.2.2.1 a)] M (fun v M' => v = none ∧ M' = aset M i 0 9 (gsum (fun n => M (o + 6 + n)) (M a) 9)) := by
  refine Ct.ofV (by decide) (Nat.le_of_ble_eq_true rfl) (by simp [Value.category]) (fun κ => ?_)
  refine V.aload_n dX5_gather_0 rfl ?_
  refine V.iconst (v := nI 0) dX5_gather_1 rfl ?_
  refine V.iconst (v := nI 0) dX5_gather_2 rfl ?_
  refine V.callSN dX5_gather_3 (c_X7_setMonomial (k := 0) hi li (by decide)) nlX5_39 st_X7_setMonomial cd_X7_setMonomial ini_X7 hd_X7_setMonomial ⟨Nat.le_of_ble_eq_true rfl, Nat.le_of_ble_eq_true rfl⟩ rfl (Nat.le_of_ble_eq_true rfl) (V.kkN ?_)
  refine V.iconst (v := nI 0) dX5_gather_6 rfl ?_
  refine V.istore_n dX5_gather_7 (by decide) ?_
  have lp := up_loop 9 (fun n => v_X5_gather g κ (Qm g κ (fun v M' => v = none ∧ M' = aset M i 0 9 (gsum (fun n => M (o + 6 + n)) (M a) 9))) (aset M i 0 9 (gsum (fun n => M (o + 6 + n)) (M a) n)) 8 [some (.ref (g.2.2.2.1 o)), some (.ref (g.2.2.2.1 i)), some (.ref (g.2.2.2.1 a)), some (.int (nI n))] []) (fun n hn ih => ?_) 0 (by omega)
  · exact lp
  · refine V.iload_n dX5_gather_8 rfl ?_
    refine V.bipush (v := nI 9) dX5_gather_9 (by decide) ?_
    refine V.geN (tgt := 33) dX5_gather_11 (by decide) (by omega) (by omega) (fun h1 => ?_) (fun h1 => ?_)
    · have e : n = 9 := by omega
      subst e
      refine V.vret dX5_gather_33 ?_
      exact ⟨rfl, rfl⟩
    · refine V.aload_n dX5_gather_14 rfl ?_
      refine V.aload_n dX5_gather_15 rfl ?_
      refine V.getf (ci := 4) (k := 4) (C := RX5) (T := TX5) (N := 8) dX5_gather_16 lfX5_26 inX5 rfl (by first | assumption | exact hI _ (by omega) | exact hJ _ (by omega)) (cont_row ho _) (by decide) rfl ?_
      refine V.iload_n dX5_gather_19 rfl ?_
      refine V.aald (n := 9) (t := 2) dX5_gather_20 (by first | assumption | exact hI _ (by omega) | exact hJ _ (by omega)) (cont_pols ho _) rfl rfl (by decide) (by omega) ?_
      refine V.aload_n dX5_gather_21 rfl ?_
      refine V.iload_n dX5_gather_22 rfl ?_
      refine V.iald (n := 9) dX5_gather_23 (by first | assumption | exact hI _ (by omega) | exact hJ _ (by omega)) (by first | assumption | decide | exact ial_row ho (by omega) (by omega) (by omega)) (by omega) ?_
      refine V.callSN dX5_gather_24 (c_X7_addMultiple hi li (hJ _ (by omega)) (ial_row ho (by omega) (by omega) (by omega)) (by omega)) nlX5_79 st_X7_addMultiple cd_X7_addMultiple ini_X7 hd_X7_addMultiple ⟨Nat.le_of_ble_eq_true rfl, Nat.le_of_ble_eq_true rfl⟩ rfl (Nat.le_of_ble_eq_true rfl) (V.kkN ?_)
      refine V.iincN dX5_gather_27 (by decide) rfl ?_
      refine V.goto (tgt := 8) dX5_gather_30 (by decide) ?_
      have e := ih (by omega)
      simp only [gsum] at e
      rw [aset_aset, aset_ne hne, aset_ne (a := o + 5 + 1 + n) (by omega), aset_cg9 (fax_cg aset_9 eq9.rf), show o + 5 + 1 + n = o + 6 + n by omega]
      exact e
abbrev v_X5_secondPower (g : Gl) (κ : Ka) (Q : State → Prop) (M : Mem) (pc : Nat) (L : List (Option Value)) (st : List Value) : Prop := V g cX5_secondPower 2 yX5_secondPower.cls (some .int) (rmd 0) Q κ M pc L st
theorem c_X5_secondPower {g : Gl} {M : Mem} {o : Nat} (ho : isRw o) (hJ : ∀ i, o ≤ i ∧ i < o + 17 → i ∈ g.2.2.2.2) : Ct g yX5_secondPower cX5_secondPower 2 (some .int) 0 [.ref (g.2.2.2.1 o)] M (fun v M' => v = some (.int (fsec (M (o + 2)) 7)) ∧ M' = M) := by
  refine Ct.ofV (by decide) (Nat.le_of_ble_eq_true rfl) (by simp [Value.category]) (fun κ => ?_)
  refine V.iconst (v := nI 2) dX5_secondPower_0 rfl ?_
  refine V.istore_n dX5_secondPower_1 (by decide) ?_
  have lp := up_loop 9 (fun n => 2 ≤ n → fsec (M (o + 2)) (9 - n) = fsec (M (o + 2)) 7 → v_X5_secondPower g κ (Qm g κ (fun v M' => v = some (.int (fsec (M (o + 2)) 7)) ∧ M' = M)) M 2 [some (.ref (g.2.2.2.1 o)), some (.int (nI n))] []) (fun n hn ih h2 he => ?_) 2 (by omega) (by omega) rfl
  · exact lp
  · refine V.iload_n dX5_secondPower_2 rfl ?_
    refine V.bipush (v := nI 9) dX5_secondPower_3 (by decide) ?_
    refine V.geN (tgt := 25) dX5_secondPower_5 (by decide) (by omega) (by omega) (fun h1 => ?_) (fun h1 => ?_)
    · have e : n = 9 := by omega
      subst e
      refine V.iconst (v := -1) dX5_secondPower_25 rfl ?_
      refine V.iret dX5_secondPower_26 ?_
      exact ⟨by rw [← he]; rfl, rfl⟩
    · rw [show 9 - n = (8 - n) + 1 by omega] at he
      have u : fsec (M (o + 2)) (8 - n + 1) = if M (o + 2) (8 - (8 - n)) = 0 then fsec (M (o + 2)) (8 - n) else nI (8 - (8 - n)) := rfl
      rw [u, show 8 - (8 - n) = n by omega] at he
      refine V.aload_n dX5_secondPower_8 rfl ?_
      refine V.getf (ci := 4) (k := 1) (C := RX5) (T := TX5) (N := 8) dX5_secondPower_9 lfX5_15 inX5 rfl (by first | assumption | exact hI _ (by omega) | exact hJ _ (by omega)) (cont_row ho _) (by decide) rfl ?_
      refine V.iload_n dX5_secondPower_12 rfl ?_
      refine V.iald (n := 9) dX5_secondPower_13 (by first | assumption | exact hI _ (by omega) | exact hJ _ (by omega)) (by first | assumption | decide | exact ial_row ho (by omega) (by omega) (by omega)) (by omega) ?_
      refine V.if_eq (tgt := 19) dX5_secondPower_14 (by decide) (fun h3 => ?_) (fun h3 => ?_)
      · rw [if_pos h3] at he
        refine V.iincN dX5_secondPower_19 (by decide) rfl ?_
        refine V.goto (tgt := 2) dX5_secondPower_22 (by decide) ?_
        exact ih (by omega) (by omega) (by rw [show 9 - (n + 1) = 8 - n by omega]; exact he)
      · rw [if_neg h3] at he
        refine V.iload_n dX5_secondPower_17 rfl ?_
        refine V.iret dX5_secondPower_18 ?_
        exact ⟨by rw [he], rfl⟩
end
section
section VMI
variable {g : Gl} {cc : ByteArray} {nL : Nat} {own : String} {ret : Option FieldType} {R : Room} {Q : State → Prop} {κ : Ka} {M : Mem} {pc : Nat} {L : List (Option Value)} {st : List Value}
theorem V.min {a b : Nat} (d : decode cc pc = .ok (.invokestatic 31, 3)) (ho : own = RX0) (ha : a < 2 ^ 31) (hb : b < 2 ^ 31) (hR : 1 ≤ R.frames ∧ 40 ≤ R.locals) (hw : (st.map fun v => v.category).sum ≤ 8) (kk : V g cc nL own ret R Q κ M (pc + 3) L (.int (nI (Nat.min a b)) :: st)) : V g cc nL own ret R Q κ M pc L (.int (nI b) :: .int (nI a) :: st) := fun E H locs ls w hl => by
  subst ho
  refine va_mmin E.1 E.2.1 (by rw [hl.1]; exact E.2.2.1) E.2.2.2.1 (E.2.2.2.2.1 _ lkX0_31) (E.2.2.2.2.1 _ st_J9_min_7cf53) (E.2.2.2.2.1 _ ini_J9) (E.2.2.2.2.1 _ cd_J9_min_7cf53) hR.1 (by omega) (Nat.zero_le _) (Nat.zero_le _) d ?_
  have e : (if nI b < nI a then nI b else nI a) = nI (Nat.min a b) := by
    by_cases h : b < a
    · rw [if_pos (nI_lt h ha), show Nat.min a b = b from Nat.min_eq_right (by omega)]
    · rw [if_neg (nI_nlt (by omega) hb), show Nat.min a b = a from Nat.min_eq_left (by omega)]
  rw [e]
  exact kk E H locs ls w hl
end VMI
theorem c_X0_remember {g : Gl} {M : Mem} {a u : Nat} (hI : ∀ i, 102 ≤ i ∧ i ≤ 112 → i ∈ g.2.2.2.2) (ha : a < 8) (e3 : M 102 3 = nI a) (hu : u ≤ 8) (e1 : M 102 1 = nI u) : Ct g yX0_remember cX0_remember 1 none 2 [.ref (g.2.2.2.1 102)] M (fun v M' => v = none ∧ M' = mset (mset (aset M (105 + a) 0 9 (M 103)) 102 3 (nI ((a + 1) % 8))) 102 1 (nI (min (u + 1) 8))) := by
  have l5 : ial (105 + a) = 9 := by unfold ial; rw [if_pos (by omega), if_neg (by omega), if_neg (by omega), if_neg (by omega), if_neg (by omega), if_pos (by omega), if_neg (by omega)]
  refine Ct.ofV (by decide) (Nat.le_of_ble_eq_true rfl) (by simp [Value.category]) (fun κ => ?_)
  refine V.aload_n dX0_remember_0 rfl ?_
  refine V.getf (ci := 0) (k := 0) (C := RX0) (T := TX0) (N := 4) dX0_remember_1 lfX0_9 inX0 rfl (by first | assumption | exact hI _ (by omega)) rfl (by decide) rfl ?_
  refine V.aload_n dX0_remember_4 rfl ?_
  refine V.getf (ci := 0) (k := 2) (C := RX0) (T := TX0) (N := 4) dX0_remember_5 lfX0_21 inX0 rfl (by first | assumption | exact hI _ (by omega)) rfl (by decide) rfl ?_
  refine V.aload_n dX0_remember_8 rfl ?_
  refine V.getf (ci := 0) (k := 3) (C := RX0) (T := TX0) (N := 4) dX0_remember_9 lfX0_24 inX0 rfl (by first | assumption | exact hI _ (by omega)) rfl (by decide) rfl ?_
  rw [e3]
  refine V.aald (n := 8) (t := 2) dX0_remember_12 (by first | assumption | exact hI _ (by omega)) rfl rfl rfl (by decide) (by omega) ?_
  refine V.callSN dX0_remember_13 (c_X7_copy (hI 103 (by decide)) (hI (105 + a) (by omega)) rfl l5) nlX0_27 st_X7_copy cd_X7_copy ini_X7 hd_X7_copy ⟨Nat.le_of_ble_eq_true rfl, Nat.le_of_ble_eq_true rfl⟩ rfl (Nat.le_of_ble_eq_true rfl) (V.kkN ?_)
  refine V.aload_n dX0_remember_16 rfl ?_
  refine V.aload_n dX0_remember_17 rfl ?_
  refine V.getf (ci := 0) (k := 3) (C := RX0) (T := TX0) (N := 4) dX0_remember_18 lfX0_24 inX0 rfl (by first | assumption | exact hI _ (by omega)) rfl (by decide) rfl ?_
  rw [aset_ne (a := 102) (by omega), e3]
  refine V.iconst (v := nI 1) dX0_remember_21 rfl ?_
  first | refine V.iaddN dX0_remember_22 ?_ | refine V.iadd dX0_remember_22 ?_
  refine V.bipush (v := nI 8) dX0_remember_23 (by decide) ?_
  first | refine V.iremN dX0_remember_25 (by omega) (by omega) (by omega) ?_ | refine V.irem dX0_remember_25 (by decide) ?_
  refine V.putf (ci := 0) (k := 3) (C := RX0) (T := TX0) (N := 4) (ty := .int) tyX0 dX0_remember_26 lfX0_24 inX0 tyX0_ok nmX0 rfl (by first | assumption | exact hI _ (by omega)) rfl (by decide) rfl rfl rfl rfl (Nat.le_of_ble_eq_true rfl) rfl ?_
  refine V.aload_n dX0_remember_29 rfl ?_
  refine V.aload_n dX0_remember_30 rfl ?_
  refine V.getf (ci := 0) (k := 1) (C := RX0) (T := TX0) (N := 4) dX0_remember_31 lfX0_15 inX0 rfl (by first | assumption | exact hI _ (by omega)) rfl (by decide) rfl ?_
  rw [mset_nat (by decide), aset_ne (a := 102) (by omega), e1]
  refine V.iconst (v := nI 1) dX0_remember_34 rfl ?_
  first | refine V.iaddN dX0_remember_35 ?_ | refine V.iadd dX0_remember_35 ?_
  refine V.bipush (v := nI 8) dX0_remember_36 (by decide) ?_
  refine V.min dX0_remember_38 rfl (by omega) (by omega) ⟨Nat.le_of_ble_eq_true rfl, Nat.le_of_ble_eq_true rfl⟩ (Nat.le_of_ble_eq_true rfl) ?_
  refine V.putf (ci := 0) (k := 1) (C := RX0) (T := TX0) (N := 4) (ty := .int) tyX0 dX0_remember_41 lfX0_15 inX0 tyX0_ok nmX0 rfl (by first | assumption | exact hI _ (by omega)) rfl (by decide) rfl rfl rfl rfl (Nat.le_of_ble_eq_true rfl) rfl ?_
  refine V.vret dX0_remember_44 ?_
  exact ⟨rfl, rfl⟩
theorem c_X0_restore_0 {g : Gl} {M : Mem} (hI : ∀ i, 102 ≤ i ∧ i ≤ 112 → i ∈ g.2.2.2.2) (e1 : M 102 1 = nI 0) : Ct g yX0_restore cX0_restore 1 (some .boolean) 2 [.ref (g.2.2.2.1 102)] M (fun v M' => v = some (.int (nI 0)) ∧ M' = M) := by
  refine Ct.ofV (by decide) (Nat.le_of_ble_eq_true rfl) (by simp [Value.category]) (fun κ => ?_)
  refine V.aload_n dX0_restore_0 rfl ?_
  refine V.getf (ci := 0) (k := 1) (C := RX0) (T := TX0) (N := 4) dX0_restore_1 lfX0_15 inX0 rfl (by first | assumption | exact hI _ (by omega)) rfl (by decide) rfl ?_
  rw [e1]
  refine V.if_neN (tgt := 9) dX0_restore_4 (by decide) (by omega) (fun h1 => ?_) (fun h1 => ?_)
  · omega
  · refine V.iconst (v := nI 0) dX0_restore_7 rfl ?_
    refine V.zret dX0_restore_8 rfl ?_
    exact ⟨rfl, rfl⟩
theorem c_X0_restore_1 {g : Gl} {M : Mem} {a u : Nat} (hI : ∀ i, 102 ≤ i ∧ i ≤ 112 → i ∈ g.2.2.2.2) (ha : a < 8) (e3 : M 102 3 = nI a) (hu : u ≤ 7) (e1 : M 102 1 = nI (u + 1)) : Ct g yX0_restore cX0_restore 1 (some .boolean) 2 [.ref (g.2.2.2.1 102)] M (fun v M' => v = some (.int (nI 1)) ∧ M' = aset (mset (mset M 102 3 (nI ((a + 7) % 8))) 102 1 (nI u)) 103 0 9 (M (105 + (a + 7) % 8))) := by
  have hq : (a + 7) % 8 < 8 := Nat.mod_lt _ (by decide)
  have l5 : ial (105 + (a + 7) % 8) = 9 := by unfold ial; rw [if_pos (by omega), if_neg (by omega), if_neg (by omega), if_neg (by omega), if_neg (by omega), if_pos (by omega), if_neg (by omega)]
  refine Ct.ofV (by decide) (Nat.le_of_ble_eq_true rfl) (by simp [Value.category]) (fun κ => ?_)
  refine V.aload_n dX0_restore_0 rfl ?_
  refine V.getf (ci := 0) (k := 1) (C := RX0) (T := TX0) (N := 4) dX0_restore_1 lfX0_15 inX0 rfl (by first | assumption | exact hI _ (by omega)) rfl (by decide) rfl ?_
  rw [e1]
  refine V.if_neN (tgt := 9) dX0_restore_4 (by decide) (by omega) (fun h1 => ?_) (fun h1 => ?_)
  · refine V.aload_n dX0_restore_9 rfl ?_
    refine V.aload_n dX0_restore_10 rfl ?_
    refine V.getf (ci := 0) (k := 3) (C := RX0) (T := TX0) (N := 4) dX0_restore_11 lfX0_24 inX0 rfl (by first | assumption | exact hI _ (by omega)) rfl (by decide) rfl ?_
    rw [e3]
    refine V.bipush (v := nI 8) dX0_restore_14 (by decide) ?_
    first | refine V.iaddN dX0_restore_16 ?_ | refine V.iadd dX0_restore_16 ?_
    refine V.iconst (v := nI 1) dX0_restore_17 rfl ?_
    first | refine V.isubN dX0_restore_18 (by omega) ?_ | refine V.isub dX0_restore_18 ?_
    refine V.bipush (v := nI 8) dX0_restore_19 (by decide) ?_
    first | refine V.iremN dX0_restore_21 (by omega) (by omega) (by omega) ?_ | refine V.irem dX0_restore_21 (by decide) ?_
    refine V.putf (ci := 0) (k := 3) (C := RX0) (T := TX0) (N := 4) (ty := .int) tyX0 dX0_restore_22 lfX0_24 inX0 tyX0_ok nmX0 rfl (by first | assumption | exact hI _ (by omega)) rfl (by decide) rfl rfl rfl rfl (Nat.le_of_ble_eq_true rfl) rfl ?_
    refine V.aload_n dX0_restore_25 rfl ?_
    refine V.dup dX0_restore_26 rfl ?_
    refine V.getf (ci := 0) (k := 1) (C := RX0) (T := TX0) (N := 4) dX0_restore_27 lfX0_15 inX0 rfl (by first | assumption | exact hI _ (by omega)) rfl (by decide) rfl ?_
    rw [mset_nat (by decide), e1]
    refine V.iconst (v := nI 1) dX0_restore_30 rfl ?_
    first | refine V.isubN dX0_restore_31 (by omega) ?_ | refine V.isub dX0_restore_31 ?_
    refine V.putf (ci := 0) (k := 1) (C := RX0) (T := TX0) (N := 4) (ty := .int) tyX0 dX0_restore_32 lfX0_15 inX0 tyX0_ok nmX0 rfl (by first | assumption | exact hI _ (by omega)) rfl (by decide) rfl rfl rfl rfl (Nat.le_of_ble_eq_true rfl) rfl ?_
    refine V.aload_n dX0_restore_35 rfl ?_
    refine V.getf (ci := 0) (k := 2) (C := RX0) (T := TX0) (N := 4) dX0_restore_36 lfX0_21 inX0 rfl (by first | assumption | exact hI _ (by omega)) rfl (by decide) rfl ?_
    refine V.aload_n dX0_restore_39 rfl ?_
    refine V.getf (ci := 0) (k := 3) (C := RX0) (T := TX0) (N := 4) dX0_restore_40 lfX0_24 inX0 rfl (by first | assumption | exact hI _ (by omega)) rfl (by decide) rfl ?_
    rw [mset_nat (by decide), mset_at, show a + 8 - 1 = a + 7 by omega, show u + 1 - 1 = u by omega]
    refine V.aald (n := 8) (t := 2) dX0_restore_43 (by first | assumption | exact hI _ (by omega)) rfl rfl rfl (by decide) (by omega) ?_
    refine V.aload_n dX0_restore_44 rfl ?_
    refine V.getf (ci := 0) (k := 0) (C := RX0) (T := TX0) (N := 4) dX0_restore_45 lfX0_9 inX0 rfl (by first | assumption | exact hI _ (by omega)) rfl (by decide) rfl ?_
    refine V.callSN dX0_restore_48 (c_X7_copy (hI (105 + (a + 7) % 8) (by omega)) (hI 103 (by decide)) l5 rfl) nlX0_27 st_X7_copy cd_X7_copy ini_X7 hd_X7_copy ⟨Nat.le_of_ble_eq_true rfl, Nat.le_of_ble_eq_true rfl⟩ rfl (Nat.le_of_ble_eq_true rfl) (V.kkN ?_)
    refine V.iconst (v := nI 1) dX0_restore_51 rfl ?_
    refine V.zret dX0_restore_52 rfl ?_
    exact ⟨rfl, by rw [mset_ne (by omega), mset_ne (by omega)]⟩
  · omega
theorem c_X0_forget {g : Gl} {M : Mem} (hI : ∀ i, 102 ≤ i ∧ i ≤ 112 → i ∈ g.2.2.2.2) : Ct g yX0_forget cX0_forget 1 none 0 [.ref (g.2.2.2.1 102)] M (fun v M' => v = none ∧ M' = mset M 102 1 (nI 0)) := by
  refine Ct.ofV (by decide) (Nat.le_of_ble_eq_true rfl) (by simp [Value.category]) (fun κ => ?_)
  refine V.aload_n dX0_forget_0 rfl ?_
  refine V.iconst (v := nI 0) dX0_forget_1 rfl ?_
  refine V.putf (ci := 0) (k := 1) (C := RX0) (T := TX0) (N := 4) (ty := .int) tyX0 dX0_forget_2 lfX0_15 inX0 tyX0_ok nmX0 rfl (by first | assumption | exact hI _ (by omega)) rfl (by decide) rfl rfl rfl rfl (Nat.le_of_ble_eq_true rfl) rfl ?_
  refine V.vret dX0_forget_5 ?_
  exact ⟨rfl, rfl⟩
theorem c_X0_hasTopPower {g : Gl} {M : Mem} (hI : ∀ i, 102 ≤ i ∧ i ≤ 112 → i ∈ g.2.2.2.2) : Ct g yX0_hasTopPower cX0_hasTopPower 1 (some .boolean) 0 [.ref (g.2.2.2.1 102)] M (fun v M' => v = some (.int (nI (decide (¬ M 103 8 = 0)).toNat)) ∧ M' = M) := by
  refine Ct.ofV (by decide) (Nat.le_of_ble_eq_true rfl) (by simp [Value.category]) (fun κ => ?_)
  refine V.aload_n dX0_hasTopPower_0 rfl ?_
  refine V.getf (ci := 0) (k := 0) (C := RX0) (T := TX0) (N := 4) dX0_hasTopPower_1 lfX0_9 inX0 rfl (by first | assumption | exact hI _ (by omega)) rfl (by decide) rfl ?_
  refine V.bipush (v := nI 8) dX0_hasTopPower_4 (by decide) ?_
  refine V.iald (n := 9) dX0_hasTopPower_6 (by first | assumption | exact hI _ (by omega)) (by first | assumption | decide) (by omega) ?_
  refine V.if_eq (tgt := 14) dX0_hasTopPower_7 (by decide) (fun h1 => ?_) (fun h1 => ?_)
  · refine V.iconst (v := nI 0) dX0_hasTopPower_14 rfl ?_
    refine V.zret dX0_hasTopPower_15 rfl ?_
    exact ⟨by simp [h1], rfl⟩
  · refine V.iconst (v := nI 1) dX0_hasTopPower_10 rfl ?_
    refine V.goto (tgt := 15) dX0_hasTopPower_11 (by decide) ?_
    refine V.zret dX0_hasTopPower_15 rfl ?_
    exact ⟨by simp [h1], rfl⟩
abbrev v_X0_degree (g : Gl) (κ : Ka) (Q : State → Prop) (M : Mem) (pc : Nat) (L : List (Option Value)) (st : List Value) : Prop := V g cX0_degree 2 yX0_degree.cls (some .int) (rmd 0) Q κ M pc L st
theorem c_X0_degree {g : Gl} {M : Mem} (hI : ∀ i, 102 ≤ i ∧ i ≤ 112 → i ∈ g.2.2.2.2) : Ct g yX0_degree cX0_degree 2 (some .int) 0 [.ref (g.2.2.2.1 102)] M (fun v M' => v = some (.int (fdeg (M 103) 9)) ∧ M' = M) := by
  refine Ct.ofV (by decide) (Nat.le_of_ble_eq_true rfl) (by simp [Value.category]) (fun κ => ?_)
  refine V.bipush (v := nI 8) dX0_degree_0 (by decide) ?_
  refine V.istore_n dX0_degree_2 (by decide) ?_
  have lp := dn_loop (fun k => k ≤ 9 → fdeg (M 103) k = fdeg (M 103) 9 → v_X0_degree g κ (Qm g κ (fun v M' => v = some (.int (fdeg (M 103) 9)) ∧ M' = M)) M 3 [some (.ref (g.2.2.2.1 102)), some (.int (nI k - 1))] []) (fun k ih hk he => ?_) 9 (by omega) rfl
  · exact lp
  · refine V.iload_n dX0_degree_3 rfl ?_
    refine V.if_ltD (tgt := 24) dX0_degree_4 (by decide) (by omega) (fun h1 => ?_) (fun j h1 => ?_)
    · subst h1
      refine V.iconst (v := -1) dX0_degree_24 rfl ?_
      refine V.iret dX0_degree_25 ?_
      exact ⟨by rw [← he]; rfl, rfl⟩
    · subst h1
      have u : fdeg (M 103) (j + 1) = if M 103 j = 0 then fdeg (M 103) j else nI j := rfl
      rw [u] at he
      rw [nI_pred]
      refine V.aload_n dX0_degree_7 rfl ?_
      refine V.getf (ci := 0) (k := 0) (C := RX0) (T := TX0) (N := 4) dX0_degree_8 lfX0_9 inX0 rfl (by first | assumption | exact hI _ (by omega)) rfl (by decide) rfl ?_
      refine V.iload_n dX0_degree_11 rfl ?_
      refine V.iald (n := 9) dX0_degree_12 (by first | assumption | exact hI _ (by omega)) (by first | assumption | decide) (by omega) ?_
      refine V.if_eq (tgt := 18) dX0_degree_13 (by decide) (fun h3 => ?_) (fun h3 => ?_)
      · rw [if_pos h3] at he
        refine V.iincD dX0_degree_18 (by decide) rfl ?_
        refine V.goto (tgt := 3) dX0_degree_21 (by decide) ?_
        exact ih j rfl (by omega) he
      · rw [if_neg h3] at he
        refine V.iload_n dX0_degree_16 rfl ?_
        refine V.iret dX0_degree_17 ?_
        exact ⟨by rw [he], rfl⟩
abbrev v_X0_size (g : Gl) (κ : Ka) (Q : State → Prop) (M : Mem) (pc : Nat) (L : List (Option Value)) (st : List Value) : Prop := V g cX0_size 3 yX0_size.cls (some .int) (rmd 0) Q κ M pc L st
theorem c_X0_size {g : Gl} {M : Mem} (hI : ∀ i, 102 ≤ i ∧ i ≤ 112 → i ∈ g.2.2.2.2) : Ct g yX0_size cX0_size 3 (some .int) 0 [.ref (g.2.2.2.1 102)] M (fun v M' => v = some (.int (nI (fsz (M 103) 9))) ∧ M' = M) := by
  refine Ct.ofV (by decide) (Nat.le_of_ble_eq_true rfl) (by simp [Value.category]) (fun κ => ?_)
  refine V.iconst (v := nI 0) dX0_size_0 rfl ?_
  refine V.istore_n dX0_size_1 (by decide) ?_
  refine V.iconst (v := nI 0) dX0_size_2 rfl ?_
  refine V.istore_n dX0_size_3 (by decide) ?_
  have lp := up_loop 9 (fun j => v_X0_size g κ (Qm g κ (fun v M' => v = some (.int (nI (fsz (M 103) 9))) ∧ M' = M)) M 4 [some (.ref (g.2.2.2.1 102)), some (.int (nI (fsz (M 103) j))), some (.int (nI j))] []) (fun j hj ih => ?_) 0 (by omega)
  · exact lp
  · refine V.iload_n dX0_size_4 rfl ?_
    refine V.bipush (v := nI 9) dX0_size_5 (by decide) ?_
    refine V.geN (tgt := 28) dX0_size_7 (by decide) (by omega) (by omega) (fun h1 => ?_) (fun h1 => ?_)
    · have e : j = 9 := by omega
      subst e
      refine V.iload_n dX0_size_28 rfl ?_
      refine V.iret dX0_size_29 ?_
      exact ⟨rfl, rfl⟩
    · have u : fsz (M 103) (j + 1) = if M 103 j = 0 then fsz (M 103) j else fsz (M 103) j + 1 := rfl
      rw [u] at ih
      refine V.aload_n dX0_size_10 rfl ?_
      refine V.getf (ci := 0) (k := 0) (C := RX0) (T := TX0) (N := 4) dX0_size_11 lfX0_9 inX0 rfl (by first | assumption | exact hI _ (by omega)) rfl (by decide) rfl ?_
      refine V.iload_n dX0_size_14 rfl ?_
      refine V.iald (n := 9) dX0_size_15 (by first | assumption | exact hI _ (by omega)) (by first | assumption | decide) (by omega) ?_
      refine V.if_eq (tgt := 22) dX0_size_16 (by decide) (fun h3 => ?_) (fun h3 => ?_)
      · rw [if_pos h3] at ih
        refine V.iincN dX0_size_22 (by decide) rfl ?_
        refine V.goto (tgt := 4) dX0_size_25 (by decide) ?_
        exact ih (by omega)
      · rw [if_neg h3] at ih
        refine V.iincN dX0_size_19 (by decide) rfl ?_
        refine V.iincN dX0_size_22 (by decide) rfl ?_
        refine V.goto (tgt := 4) dX0_size_25 (by decide) ?_
        exact ih (by omega)
end
