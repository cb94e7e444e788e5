-- ===== PART A: goes FIRST, ahead of the names: the tables' words, and 'selects' of the private methods out of them =====
/-- a private method of a class that the tables say can be made, by its rows of tables_1 -/
def lw_okq (q : MethodName × Nat) : Prop := (q.1.cls ≠ "java/lang/invoke/MethodHandle" ∧ q.1.cls ≠ "java/lang/invoke/VarHandle") ∧ Cond.instantiable q.1.cls q.2 ∈ tables_1 ∧ Cond.privateMethod q.1 ∈ tables_1 ∧ Cond.instanceMethod q.1 ∈ tables_1
theorem lw_p0 : lw_okq (⟨"GateSayings$Script", "readGate", "(LGateSayings$Town;)Z"⟩, 3) := ⟨⟨by decide +kernel, by decide +kernel⟩, List.mem_of_getElem? (i := 26) (by decide +kernel), List.mem_of_getElem? (i := 251) (by decide +kernel), List.mem_of_getElem? (i := 252) (by decide +kernel)⟩
theorem lw_p1 : lw_okq (⟨"GateSayings$Script", "takes", "(C)Z"⟩, 3) := ⟨⟨by decide +kernel, by decide +kernel⟩, List.mem_of_getElem? (i := 26) (by decide +kernel), List.mem_of_getElem? (i := 255) (by decide +kernel), List.mem_of_getElem? (i := 256) (by decide +kernel)⟩
theorem lw_p2 : lw_okq (⟨"GateSayings$Script", "takeNumber", "()I"⟩, 3) := ⟨⟨by decide +kernel, by decide +kernel⟩, List.mem_of_getElem? (i := 26) (by decide +kernel), List.mem_of_getElem? (i := 259) (by decide +kernel), List.mem_of_getElem? (i := 260) (by decide +kernel)⟩
theorem lw_p3 : lw_okq (⟨"GateSayings$Script", "takeFigure", "()I"⟩, 3) := ⟨⟨by decide +kernel, by decide +kernel⟩, List.mem_of_getElem? (i := 26) (by decide +kernel), List.mem_of_getElem? (i := 263) (by decide +kernel), List.mem_of_getElem? (i := 264) (by decide +kernel)⟩
theorem lw_p4 : lw_okq (⟨"GateSayings$Script", "takeSaying", "()I"⟩, 3) := ⟨⟨by decide +kernel, by decide +kernel⟩, List.mem_of_getElem? (i := 26) (by decide +kernel), List.mem_of_getElem? (i := 270) (by decide +kernel), List.mem_of_getElem? (i := 271) (by decide +kernel)⟩
theorem lw_p5 : lw_okq (⟨"GateSayings$Script", "readPerson", "(LGateSayings$Town;)Z"⟩, 3) := ⟨⟨by decide +kernel, by decide +kernel⟩, List.mem_of_getElem? (i := 26) (by decide +kernel), List.mem_of_getElem? (i := 281) (by decide +kernel), List.mem_of_getElem? (i := 282) (by decide +kernel)⟩
theorem lw_p6 : lw_okq (⟨"GateSayings$Shelf", "dropOldest", "()V"⟩, 2) := ⟨⟨by decide +kernel, by decide +kernel⟩, List.mem_of_getElem? (i := 94) (by decide +kernel), List.mem_of_getElem? (i := 393) (by decide +kernel), List.mem_of_getElem? (i := 394) (by decide +kernel)⟩
theorem lw_p7 : lw_okq (⟨"GateSayings", "follow", "([III)I"⟩, 8) := ⟨⟨by decide +kernel, by decide +kernel⟩, List.mem_of_getElem? (i := 18) (by decide +kernel), List.mem_of_getElem? (i := 429) (by decide +kernel), List.mem_of_getElem? (i := 430) (by decide +kernel)⟩
theorem lw_p8 : lw_okq (⟨"GateSayings$BestSearch", "inReach", "(LGateSayings$Town;I)I"⟩, 3) := ⟨⟨by decide +kernel, by decide +kernel⟩, List.mem_of_getElem? (i := 145) (by decide +kernel), List.mem_of_getElem? (i := 463) (by decide +kernel), List.mem_of_getElem? (i := 464) (by decide +kernel)⟩
theorem lw_p9 : lw_okq (⟨"GateSayings$BestSearch", "spend", "(LGateSayings$Town;II)V"⟩, 3) := ⟨⟨by decide +kernel, by decide +kernel⟩, List.mem_of_getElem? (i := 145) (by decide +kernel), List.mem_of_getElem? (i := 467) (by decide +kernel), List.mem_of_getElem? (i := 468) (by decide +kernel)⟩
theorem lw_p10 : lw_okq (⟨"GateSayings$LessonSearch", "forgetAll", "()V"⟩, 5) := ⟨⟨by decide +kernel, by decide +kernel⟩, List.mem_of_getElem? (i := 165) (by decide +kernel), List.mem_of_getElem? (i := 494) (by decide +kernel), List.mem_of_getElem? (i := 495) (by decide +kernel)⟩
theorem lw_p11 : lw_okq (⟨"GateSayings$LessonSearch", "reach", "(II)V"⟩, 5) := ⟨⟨by decide +kernel, by decide +kernel⟩, List.mem_of_getElem? (i := 165) (by decide +kernel), List.mem_of_getElem? (i := 498) (by decide +kernel), List.mem_of_getElem? (i := 499) (by decide +kernel)⟩
theorem lw_p12 : lw_okq (⟨"GateSayings$LessonSearch", "goOn", "(LGateSayings$Town;IIZ)V"⟩, 5) := ⟨⟨by decide +kernel, by decide +kernel⟩, List.mem_of_getElem? (i := 165) (by decide +kernel), List.mem_of_getElem? (i := 503) (by decide +kernel), List.mem_of_getElem? (i := 504) (by decide +kernel)⟩
theorem lw_p13 : lw_okq (⟨"GateSayingsModel", "empty", "()V"⟩, 22) := ⟨⟨by decide +kernel, by decide +kernel⟩, List.mem_of_getElem? (i := 621) (by decide +kernel), List.mem_of_getElem? (i := 627) (by decide +kernel), List.mem_of_getElem? (i := 628) (by decide +kernel)⟩
theorem lw_p14 : lw_okq (⟨"GateSayingsModel", "gateIs", "(III)V"⟩, 22) := ⟨⟨by decide +kernel, by decide +kernel⟩, List.mem_of_getElem? (i := 621) (by decide +kernel), List.mem_of_getElem? (i := 631) (by decide +kernel), List.mem_of_getElem? (i := 632) (by decide +kernel)⟩
theorem lw_p15 : lw_okq (⟨"GateSayingsModel", "say", "(II)V"⟩, 22) := ⟨⟨by decide +kernel, by decide +kernel⟩, List.mem_of_getElem? (i := 621) (by decide +kernel), List.mem_of_getElem? (i := 635) (by decide +kernel), List.mem_of_getElem? (i := 636) (by decide +kernel)⟩
def lw_privs_1 : List (MethodName × Nat) := [(⟨"GateSayings$Script", "readGate", "(LGateSayings$Town;)Z"⟩, 3), (⟨"GateSayings$Script", "takes", "(C)Z"⟩, 3), (⟨"GateSayings$Script", "takeNumber", "()I"⟩, 3), (⟨"GateSayings$Script", "takeFigure", "()I"⟩, 3), (⟨"GateSayings$Script", "takeSaying", "()I"⟩, 3), (⟨"GateSayings$Script", "readPerson", "(LGateSayings$Town;)Z"⟩, 3), (⟨"GateSayings$Shelf", "dropOldest", "()V"⟩, 2), (⟨"GateSayings", "follow", "([III)I"⟩, 8), (⟨"GateSayings$BestSearch", "inReach", "(LGateSayings$Town;I)I"⟩, 3), (⟨"GateSayings$BestSearch", "spend", "(LGateSayings$Town;II)V"⟩, 3), (⟨"GateSayings$LessonSearch", "forgetAll", "()V"⟩, 5), (⟨"GateSayings$LessonSearch", "reach", "(II)V"⟩, 5), (⟨"GateSayings$LessonSearch", "goOn", "(LGateSayings$Town;IIZ)V"⟩, 5), (⟨"GateSayingsModel", "empty", "()V"⟩, 22), (⟨"GateSayingsModel", "gateIs", "(III)V"⟩, 22), (⟨"GateSayingsModel", "say", "(II)V"⟩, 22)]
theorem lw_r1 : ∀ q ∈ lw_privs_1, lw_okq q := List.forall_mem_cons.mpr ⟨lw_p0, List.forall_mem_cons.mpr ⟨lw_p1, List.forall_mem_cons.mpr ⟨lw_p2, List.forall_mem_cons.mpr ⟨lw_p3, List.forall_mem_cons.mpr ⟨lw_p4, List.forall_mem_cons.mpr ⟨lw_p5, List.forall_mem_cons.mpr ⟨lw_p6, List.forall_mem_cons.mpr ⟨lw_p7, List.forall_mem_cons.mpr ⟨lw_p8, List.forall_mem_cons.mpr ⟨lw_p9, List.forall_mem_cons.mpr ⟨lw_p10, List.forall_mem_cons.mpr ⟨lw_p11, List.forall_mem_cons.mpr ⟨lw_p12, List.forall_mem_cons.mpr ⟨lw_p13, List.forall_mem_cons.mpr ⟨lw_p14, List.forall_mem_cons.mpr ⟨lw_p15, fun _ h => absurd h List.not_mem_nil⟩⟩⟩⟩⟩⟩⟩⟩⟩⟩⟩⟩⟩⟩⟩⟩
theorem lw_p16 : lw_okq (⟨"GateSayingsModel", "personIs", "(I)V"⟩, 22) := ⟨⟨by decide +kernel, by decide +kernel⟩, List.mem_of_getElem? (i := 621) (by decide +kernel), List.mem_of_getElem? (i := 639) (by decide +kernel), List.mem_of_getElem? (i := 640) (by decide +kernel)⟩
theorem lw_p17 : lw_okq (⟨"GateSayingsModel", "begin", "()V"⟩, 22) := ⟨⟨by decide +kernel, by decide +kernel⟩, List.mem_of_getElem? (i := 621) (by decide +kernel), List.mem_of_getElem? (i := 644) (by decide +kernel), List.mem_of_getElem? (i := 645) (by decide +kernel)⟩
theorem lw_p18 : lw_okq (⟨"GateSayingsModel", "readAll", "()I"⟩, 22) := ⟨⟨by decide +kernel, by decide +kernel⟩, List.mem_of_getElem? (i := 621) (by decide +kernel), List.mem_of_getElem? (i := 732) (by decide +kernel), List.mem_of_getElem? (i := 733) (by decide +kernel)⟩
theorem lw_p19 : lw_okq (⟨"GateSayingsModel", "item", "()Z"⟩, 22) := ⟨⟨by decide +kernel, by decide +kernel⟩, List.mem_of_getElem? (i := 621) (by decide +kernel), List.mem_of_getElem? (i := 736) (by decide +kernel), List.mem_of_getElem? (i := 737) (by decide +kernel)⟩
theorem lw_p20 : lw_okq (⟨"GateSayingsModel", "letterAt", "(I)I"⟩, 22) := ⟨⟨by decide +kernel, by decide +kernel⟩, List.mem_of_getElem? (i := 621) (by decide +kernel), List.mem_of_getElem? (i := 740) (by decide +kernel), List.mem_of_getElem? (i := 741) (by decide +kernel)⟩
theorem lw_p21 : lw_okq (⟨"GateSayingsModel", "numbers", "()Z"⟩, 22) := ⟨⟨by decide +kernel, by decide +kernel⟩, List.mem_of_getElem? (i := 621) (by decide +kernel), List.mem_of_getElem? (i := 744) (by decide +kernel), List.mem_of_getElem? (i := 745) (by decide +kernel)⟩
theorem lw_p22 : lw_okq (⟨"GateSayingsModel", "saying", "()Z"⟩, 22) := ⟨⟨by decide +kernel, by decide +kernel⟩, List.mem_of_getElem? (i := 621) (by decide +kernel), List.mem_of_getElem? (i := 751) (by decide +kernel), List.mem_of_getElem? (i := 752) (by decide +kernel)⟩
theorem lw_p23 : lw_okq (⟨"GateSayingsModel", "isGate", "(I)Z"⟩, 22) := ⟨⟨by decide +kernel, by decide +kernel⟩, List.mem_of_getElem? (i := 621) (by decide +kernel), List.mem_of_getElem? (i := 764) (by decide +kernel), List.mem_of_getElem? (i := 765) (by decide +kernel)⟩
theorem lw_p24 : lw_okq (⟨"GateSayingsModel", "isPerson", "(I)Z"⟩, 22) := ⟨⟨by decide +kernel, by decide +kernel⟩, List.mem_of_getElem? (i := 621) (by decide +kernel), List.mem_of_getElem? (i := 773) (by decide +kernel), List.mem_of_getElem? (i := 774) (by decide +kernel)⟩
theorem lw_p25 : lw_okq (⟨"GateSayingsModel", "aside", "()V"⟩, 22) := ⟨⟨by decide +kernel, by decide +kernel⟩, List.mem_of_getElem? (i := 621) (by decide +kernel), List.mem_of_getElem? (i := 782) (by decide +kernel), List.mem_of_getElem? (i := 783) (by decide +kernel)⟩
theorem lw_p26 : lw_okq (⟨"GateSayingsModel", "farOf", "(II)I"⟩, 22) := ⟨⟨by decide +kernel, by decide +kernel⟩, List.mem_of_getElem? (i := 621) (by decide +kernel), List.mem_of_getElem? (i := 786) (by decide +kernel), List.mem_of_getElem? (i := 787) (by decide +kernel)⟩
theorem lw_p27 : lw_okq (⟨"GateSayingsModel", "sayingOf", "(I)V"⟩, 22) := ⟨⟨by decide +kernel, by decide +kernel⟩, List.mem_of_getElem? (i := 621) (by decide +kernel), List.mem_of_getElem? (i := 790) (by decide +kernel), List.mem_of_getElem? (i := 791) (by decide +kernel)⟩
theorem lw_p28 : lw_okq (⟨"GateSayingsModel", "farBy", "(II)I"⟩, 22) := ⟨⟨by decide +kernel, by decide +kernel⟩, List.mem_of_getElem? (i := 621) (by decide +kernel), List.mem_of_getElem? (i := 794) (by decide +kernel), List.mem_of_getElem? (i := 795) (by decide +kernel)⟩
theorem lw_p29 : lw_okq (⟨"GateSayingsModel", "note", "()V"⟩, 22) := ⟨⟨by decide +kernel, by decide +kernel⟩, List.mem_of_getElem? (i := 621) (by decide +kernel), List.mem_of_getElem? (i := 805) (by decide +kernel), List.mem_of_getElem? (i := 806) (by decide +kernel)⟩
theorem lw_p30 : lw_okq (⟨"GateSayingsModel", "goAsk", "(II)Z"⟩, 22) := ⟨⟨by decide +kernel, by decide +kernel⟩, List.mem_of_getElem? (i := 621) (by decide +kernel), List.mem_of_getElem? (i := 809) (by decide +kernel), List.mem_of_getElem? (i := 810) (by decide +kernel)⟩
theorem lw_p31 : lw_okq (⟨"GateSayingsModel", "letsIn", "(II)Z"⟩, 22) := ⟨⟨by decide +kernel, by decide +kernel⟩, List.mem_of_getElem? (i := 621) (by decide +kernel), List.mem_of_getElem? (i := 813) (by decide +kernel), List.mem_of_getElem? (i := 814) (by decide +kernel)⟩
def lw_privs_2 : List (MethodName × Nat) := [(⟨"GateSayingsModel", "personIs", "(I)V"⟩, 22), (⟨"GateSayingsModel", "begin", "()V"⟩, 22), (⟨"GateSayingsModel", "readAll", "()I"⟩, 22), (⟨"GateSayingsModel", "item", "()Z"⟩, 22), (⟨"GateSayingsModel", "letterAt", "(I)I"⟩, 22), (⟨"GateSayingsModel", "numbers", "()Z"⟩, 22), (⟨"GateSayingsModel", "saying", "()Z"⟩, 22), (⟨"GateSayingsModel", "isGate", "(I)Z"⟩, 22), (⟨"GateSayingsModel", "isPerson", "(I)Z"⟩, 22), (⟨"GateSayingsModel", "aside", "()V"⟩, 22), (⟨"GateSayingsModel", "farOf", "(II)I"⟩, 22), (⟨"GateSayingsModel", "sayingOf", "(I)V"⟩, 22), (⟨"GateSayingsModel", "farBy", "(II)I"⟩, 22), (⟨"GateSayingsModel", "note", "()V"⟩, 22), (⟨"GateSayingsModel", "goAsk", "(II)Z"⟩, 22), (⟨"GateSayingsModel", "letsIn", "(II)Z"⟩, 22)]
theorem lw_r2 : ∀ q ∈ lw_privs_2, lw_okq q := List.forall_mem_cons.mpr ⟨lw_p16, List.forall_mem_cons.mpr ⟨lw_p17, List.forall_mem_cons.mpr ⟨lw_p18, List.forall_mem_cons.mpr ⟨lw_p19, List.forall_mem_cons.mpr ⟨lw_p20, List.forall_mem_cons.mpr ⟨lw_p21, List.forall_mem_cons.mpr ⟨lw_p22, List.forall_mem_cons.mpr ⟨lw_p23, List.forall_mem_cons.mpr ⟨lw_p24, List.forall_mem_cons.mpr ⟨lw_p25, List.forall_mem_cons.mpr ⟨lw_p26, List.forall_mem_cons.mpr ⟨lw_p27, List.forall_mem_cons.mpr ⟨lw_p28, List.forall_mem_cons.mpr ⟨lw_p29, List.forall_mem_cons.mpr ⟨lw_p30, List.forall_mem_cons.mpr ⟨lw_p31, fun _ h => absurd h List.not_mem_nil⟩⟩⟩⟩⟩⟩⟩⟩⟩⟩⟩⟩⟩⟩⟩⟩
theorem lw_p32 : lw_okq (⟨"GateSayingsModel", "differ", "(IIZ)I"⟩, 22) := ⟨⟨by decide +kernel, by decide +kernel⟩, List.mem_of_getElem? (i := 621) (by decide +kernel), List.mem_of_getElem? (i := 817) (by decide +kernel), List.mem_of_getElem? (i := 818) (by decide +kernel)⟩
theorem lw_p33 : lw_okq (⟨"GateSayingsModel", "take", "()V"⟩, 22) := ⟨⟨by decide +kernel, by decide +kernel⟩, List.mem_of_getElem? (i := 621) (by decide +kernel), List.mem_of_getElem? (i := 824) (by decide +kernel), List.mem_of_getElem? (i := 825) (by decide +kernel)⟩
theorem lw_p34 : lw_okq (⟨"GateSayingsModel", "goes", "(II)I"⟩, 22) := ⟨⟨by decide +kernel, by decide +kernel⟩, List.mem_of_getElem? (i := 621) (by decide +kernel), List.mem_of_getElem? (i := 832) (by decide +kernel), List.mem_of_getElem? (i := 833) (by decide +kernel)⟩
theorem lw_p35 : lw_okq (⟨"GateSayingsModel", "goNearer", "(II)I"⟩, 22) := ⟨⟨by decide +kernel, by decide +kernel⟩, List.mem_of_getElem? (i := 621) (by decide +kernel), List.mem_of_getElem? (i := 836) (by decide +kernel), List.mem_of_getElem? (i := 837) (by decide +kernel)⟩
theorem lw_p36 : lw_okq (⟨"GateSayingsModel", "sayingIs", "(I)V"⟩, 22) := ⟨⟨by decide +kernel, by decide +kernel⟩, List.mem_of_getElem? (i := 621) (by decide +kernel), List.mem_of_getElem? (i := 858) (by decide +kernel), List.mem_of_getElem? (i := 859) (by decide +kernel)⟩
theorem lw_p37 : lw_okq (⟨"GateSayingsModel", "openTo", "()I"⟩, 22) := ⟨⟨by decide +kernel, by decide +kernel⟩, List.mem_of_getElem? (i := 621) (by decide +kernel), List.mem_of_getElem? (i := 862) (by decide +kernel), List.mem_of_getElem? (i := 863) (by decide +kernel)⟩
theorem lw_p38 : lw_okq (⟨"GateSayingsModel", "farFromAll", "()I"⟩, 22) := ⟨⟨by decide +kernel, by decide +kernel⟩, List.mem_of_getElem? (i := 621) (by decide +kernel), List.mem_of_getElem? (i := 871) (by decide +kernel), List.mem_of_getElem? (i := 872) (by decide +kernel)⟩
theorem lw_p39 : lw_okq (⟨"GateSayingsModel", "codeOf", "(I)I"⟩, 22) := ⟨⟨by decide +kernel, by decide +kernel⟩, List.mem_of_getElem? (i := 621) (by decide +kernel), List.mem_of_getElem? (i := 879) (by decide +kernel), List.mem_of_getElem? (i := 880) (by decide +kernel)⟩
theorem lw_p40 : lw_okq (⟨"GateSayingsModel", "learns", "(II)V"⟩, 22) := ⟨⟨by decide +kernel, by decide +kernel⟩, List.mem_of_getElem? (i := 621) (by decide +kernel), List.mem_of_getElem? (i := 883) (by decide +kernel), List.mem_of_getElem? (i := 884) (by decide +kernel)⟩
theorem lw_p41 : lw_okq (⟨"GateSayingsModel", "parts", "(III)Z"⟩, 22) := ⟨⟨by decide +kernel, by decide +kernel⟩, List.mem_of_getElem? (i := 621) (by decide +kernel), List.mem_of_getElem? (i := 894) (by decide +kernel), List.mem_of_getElem? (i := 895) (by decide +kernel)⟩
theorem lw_p42 : lw_okq (⟨"GateSayingsModel", "isSeen", "(III)Z"⟩, 22) := ⟨⟨by decide +kernel, by decide +kernel⟩, List.mem_of_getElem? (i := 621) (by decide +kernel), List.mem_of_getElem? (i := 913) (by decide +kernel), List.mem_of_getElem? (i := 914) (by decide +kernel)⟩
theorem lw_p43 : lw_okq (⟨"GateSayingsModel", "differs", "(I)I"⟩, 22) := ⟨⟨by decide +kernel, by decide +kernel⟩, List.mem_of_getElem? (i := 621) (by decide +kernel), List.mem_of_getElem? (i := 929) (by decide +kernel), List.mem_of_getElem? (i := 930) (by decide +kernel)⟩
theorem lw_p44 : lw_okq (⟨"GateSayingsModel", "goDrawn", "(I)V"⟩, 22) := ⟨⟨by decide +kernel, by decide +kernel⟩, List.mem_of_getElem? (i := 621) (by decide +kernel), List.mem_of_getElem? (i := 956) (by decide +kernel), List.mem_of_getElem? (i := 957) (by decide +kernel)⟩
theorem lw_p45 : lw_okq (⟨"GateSayingsModel", "ofGates", "(Z)I"⟩, 22) := ⟨⟨by decide +kernel, by decide +kernel⟩, List.mem_of_getElem? (i := 621) (by decide +kernel), List.mem_of_getElem? (i := 960) (by decide +kernel), List.mem_of_getElem? (i := 961) (by decide +kernel)⟩
def lw_privs_3 : List (MethodName × Nat) := [(⟨"GateSayingsModel", "differ", "(IIZ)I"⟩, 22), (⟨"GateSayingsModel", "take", "()V"⟩, 22), (⟨"GateSayingsModel", "goes", "(II)I"⟩, 22), (⟨"GateSayingsModel", "goNearer", "(II)I"⟩, 22), (⟨"GateSayingsModel", "sayingIs", "(I)V"⟩, 22), (⟨"GateSayingsModel", "openTo", "()I"⟩, 22), (⟨"GateSayingsModel", "farFromAll", "()I"⟩, 22), (⟨"GateSayingsModel", "codeOf", "(I)I"⟩, 22), (⟨"GateSayingsModel", "learns", "(II)V"⟩, 22), (⟨"GateSayingsModel", "parts", "(III)Z"⟩, 22), (⟨"GateSayingsModel", "isSeen", "(III)Z"⟩, 22), (⟨"GateSayingsModel", "differs", "(I)I"⟩, 22), (⟨"GateSayingsModel", "goDrawn", "(I)V"⟩, 22), (⟨"GateSayingsModel", "ofGates", "(Z)I"⟩, 22)]
theorem lw_r3 : ∀ q ∈ lw_privs_3, lw_okq q := List.forall_mem_cons.mpr ⟨lw_p32, List.forall_mem_cons.mpr ⟨lw_p33, List.forall_mem_cons.mpr ⟨lw_p34, List.forall_mem_cons.mpr ⟨lw_p35, List.forall_mem_cons.mpr ⟨lw_p36, List.forall_mem_cons.mpr ⟨lw_p37, List.forall_mem_cons.mpr ⟨lw_p38, List.forall_mem_cons.mpr ⟨lw_p39, List.forall_mem_cons.mpr ⟨lw_p40, List.forall_mem_cons.mpr ⟨lw_p41, List.forall_mem_cons.mpr ⟨lw_p42, List.forall_mem_cons.mpr ⟨lw_p43, List.forall_mem_cons.mpr ⟨lw_p44, List.forall_mem_cons.mpr ⟨lw_p45, fun _ h => absurd h List.not_mem_nil⟩⟩⟩⟩⟩⟩⟩⟩⟩⟩⟩⟩⟩⟩
def lw_privs : List (MethodName × Nat) := lw_privs_1 ++ (lw_privs_2 ++ (lw_privs_3))
def lw_tbl : List Cond := k2_sels lw_privs ++ tables_1
theorem lw_privs_ok : ∀ q ∈ lw_privs, lw_okq q := by
  show ∀ q ∈ lw_privs_1 ++ (lw_privs_2 ++ (lw_privs_3)), lw_okq q
  exact List.forall_mem_append.mpr ⟨lw_r1, List.forall_mem_append.mpr ⟨lw_r2, lw_r3⟩⟩
/-! classes, methods, words; made by wip/whole/tools/gentab.py -/
def vm_R : Nat → String
  | 0 => "GateSayings$BestSearch"
  | 1 => "GateSayings$LessonSearch"
  | 2 => "GateSayings$Script"
  | 3 => "GateSayings$Shelf"
  | 4 => "GateSayings$Town"
  | 5 => "GateSayings$Witness"
  | 6 => "GateSayings"
  | 7 => "GateSayingsModel"
  | _ => ""
def vm_T0 : u_T := fun k => match k with
  | 0 => ("GateSayings$BestSearch", "spent", "[[I", true)
  | 1 => ("GateSayings$BestSearch", "most", "I", false)
  | _ => ("GateSayings$BestSearch", "saying", "I", false)
def vm_F0 : Nat → FieldType := fun k => match k with
  | 0 => .array (.array (.int))
  | 1 => .int
  | _ => .int
def vm_T1 : u_T := fun k => match k with
  | 0 => ("GateSayings$LessonSearch", "queue", "[I", true)
  | 1 => ("GateSayings$LessonSearch", "reached", "[J", true)
  | 2 => ("GateSayings$LessonSearch", "queued", "I", false)
  | 3 => ("GateSayings$LessonSearch", "fewest", "I", false)
  | _ => ("GateSayings$LessonSearch", "firstPartner", "I", false)
def vm_F1 : Nat → FieldType := fun k => match k with
  | 0 => .array (.int)
  | 1 => .array (.long)
  | 2 => .int
  | 3 => .int
  | _ => .int
def vm_T2 : u_T := fun k => match k with
  | 0 => ("GateSayings$Script", "letters", "[C", true)
  | 1 => ("GateSayings$Script", "length", "I", false)
  | _ => ("GateSayings$Script", "at", "I", false)
def vm_F2 : Nat → FieldType := fun k => match k with
  | 0 => .array (.char)
  | 1 => .int
  | _ => .int
def vm_T3 : u_T := fun k => match k with
  | 0 => ("GateSayings$Shelf", "towns", "[LGateSayings$Town;", true)
  | _ => ("GateSayings$Shelf", "held", "I", false)
def vm_F3 : Nat → FieldType := fun k => match k with
  | 0 => .array (.object "GateSayings$Town")
  | _ => .int
def vm_T4 : u_T := fun k => match k with
  | 0 => ("GateSayings$Town", "kind", "[I", true)
  | 1 => ("GateSayings$Town", "ear", "[I", true)
  | 2 => ("GateSayings$Town", "gateSaying", "[I", true)
  | 3 => ("GateSayings$Town", "personSaying", "[I", true)
  | 4 => ("GateSayings$Town", "home", "[I", true)
  | 5 => ("GateSayings$Town", "gates", "I", false)
  | 6 => ("GateSayings$Town", "persons", "I", false)
  | 7 => ("GateSayings$Town", "letIn", "I", false)
  | _ => ("GateSayings$Town", "shutOut", "I", false)
def vm_F4 : Nat → FieldType := fun k => match k with
  | 0 => .array (.int)
  | 1 => .array (.int)
  | 2 => .array (.int)
  | 3 => .array (.int)
  | 4 => .array (.int)
  | 5 => .int
  | 6 => .int
  | 7 => .int
  | _ => .int
def vm_T5 : u_T := fun k => match k with
  | 0 => ("GateSayings$Witness", "seenPerson", "[I", true)
  | 1 => ("GateSayings$Witness", "seenGate", "[I", true)
  | 2 => ("GateSayings$Witness", "seenIn", "[Z", true)
  | 3 => ("GateSayings$Witness", "heardPlace", "[I", true)
  | 4 => ("GateSayings$Witness", "heardSound", "[I", true)
  | 5 => ("GateSayings$Witness", "sights", "I", false)
  | _ => ("GateSayings$Witness", "hearings", "I", false)
def vm_F5 : Nat → FieldType := fun k => match k with
  | 0 => .array (.int)
  | 1 => .array (.int)
  | 2 => .array (.boolean)
  | 3 => .array (.int)
  | 4 => .array (.int)
  | 5 => .int
  | _ => .int
def vm_T6 : u_T := fun k => match k with
  | 0 => ("GateSayings", "script", "LGateSayings$Script;", true)
  | 1 => ("GateSayings", "town", "LGateSayings$Town;", true)
  | 2 => ("GateSayings", "trial", "LGateSayings$Town;", true)
  | 3 => ("GateSayings", "past", "LGateSayings$Shelf;", true)
  | 4 => ("GateSayings", "kept", "LGateSayings$Shelf;", true)
  | 5 => ("GateSayings", "witness", "LGateSayings$Witness;", true)
  | 6 => ("GateSayings", "bestSearch", "LGateSayings$BestSearch;", true)
  | _ => ("GateSayings", "lessonSearch", "LGateSayings$LessonSearch;", true)
def vm_F6 : Nat → FieldType := fun k => match k with
  | 0 => .object "GateSayings$Script"
  | 1 => .object "GateSayings$Town"
  | 2 => .object "GateSayings$Town"
  | 3 => .object "GateSayings$Shelf"
  | 4 => .object "GateSayings$Shelf"
  | 5 => .object "GateSayings$Witness"
  | 6 => .object "GateSayings$BestSearch"
  | _ => .object "GateSayings$LessonSearch"
def vm_T7 : u_T := fun k => match k with
  | 0 => ("GateSayingsModel", "length", "I", false)
  | 1 => ("GateSayingsModel", "text", "[I", true)
  | 2 => ("GateSayingsModel", "told", "[I", true)
  | 3 => ("GateSayingsModel", "read", "[I", true)
  | 4 => ("GateSayingsModel", "readRow", "[I", true)
  | 5 => ("GateSayingsModel", "now", "[I", true)
  | 6 => ("GateSayingsModel", "side", "[I", true)
  | 7 => ("GateSayingsModel", "before", "[I", true)
  | 8 => ("GateSayingsModel", "undoMany", "I", false)
  | 9 => ("GateSayingsModel", "kept", "[I", true)
  | 10 => ("GateSayingsModel", "keptMany", "I", false)
  | 11 => ("GateSayingsModel", "seen", "[I", true)
  | 12 => ("GateSayingsModel", "seenMany", "I", false)
  | 13 => ("GateSayingsModel", "heard", "[I", true)
  | 14 => ("GateSayingsModel", "heardMany", "I", false)
  | 15 => ("GateSayingsModel", "spot", "I", false)
  | 16 => ("GateSayingsModel", "number", "[I", true)
  | 17 => ("GateSayingsModel", "figures", "I", false)
  | 18 => ("GateSayingsModel", "saying", "[I", true)
  | 19 => ("GateSayingsModel", "steps", "[I", true)
  | 20 => ("GateSayingsModel", "firsts", "[I", true)
  | _ => ("GateSayingsModel", "wave", "[I", true)
def vm_F7 : Nat → FieldType := fun k => match k with
  | 0 => .int
  | 1 => .array (.int)
  | 2 => .array (.int)
  | 3 => .array (.int)
  | 4 => .array (.int)
  | 5 => .array (.int)
  | 6 => .array (.int)
  | 7 => .array (.int)
  | 8 => .int
  | 9 => .array (.int)
  | 10 => .int
  | 11 => .array (.int)
  | 12 => .int
  | 13 => .array (.int)
  | 14 => .int
  | 15 => .int
  | 16 => .array (.int)
  | 17 => .int
  | 18 => .array (.int)
  | 19 => .array (.int)
  | 20 => .array (.int)
  | _ => .array (.int)
def vm_T : Nat → u_T
  | 0 => vm_T0
  | 1 => vm_T1
  | 2 => vm_T2
  | 3 => vm_T3
  | 4 => vm_T4
  | 5 => vm_T5
  | 6 => vm_T6
  | 7 => vm_T7
  | _ => vm_T0
def vm_F : Nat → Nat → FieldType
  | 0 => vm_F0
  | 1 => vm_F1
  | 2 => vm_F2
  | 3 => vm_F3
  | 4 => vm_F4
  | 5 => vm_F5
  | 6 => vm_F6
  | 7 => vm_F7
  | _ => vm_F0
def vm_N : Nat → Nat
  | 0 => 3
  | 1 => 5
  | 2 => 3
  | 3 => 2
  | 4 => 9
  | 5 => 7
  | 6 => 8
  | 7 => 22
  | _ => 0
def vm_cls : List vw_C := [(vm_R 0, vm_T 0, 3), (vm_R 1, vm_T 1, 5), (vm_R 2, vm_T 2, 3), (vm_R 3, vm_T 3, 2), (vm_R 4, vm_T 4, 9), (vm_R 5, vm_T 5, 7), (vm_R 6, vm_T 6, 8), (vm_R 7, vm_T 7, 22)]
def vm_mi : List (MethodName × ByteArray × Option FieldType) := [(⟨"java/lang/Integer", "compare", "(II)I"⟩, prog_11_method_40_code, (some .int)), (⟨"java/lang/Integer", "bitCount", "(I)I"⟩, prog_11_method_49_code, (some .int)), (⟨"GateSayings$Saying", "soundAt", "(II)I"⟩, prog_4_method_2_code, (some .int)), (⟨"GateSayings$Saying", "withSound", "(III)I"⟩, prog_4_method_3_code, (some .int)), (⟨"GateSayings$Saying", "gapAt", "(III)I"⟩, prog_4_method_4_code, (some .int)), (⟨"GateSayings$Saying", "firstDifference", "(II)I"⟩, prog_4_method_5_code, (some .int)), (⟨"GateSayings$Saying", "widestDifference", "(II)I"⟩, prog_4_method_6_code, (some .int)), (⟨"GateSayings$Saying", "nearer", "(III)I"⟩, prog_4_method_7_code, (some .int)), (⟨"GateSayings$Saying", "misheard", "(II)I"⟩, prog_4_method_8_code, (some .int)), (⟨"GateSayings$Town", "<init>", "()V"⟩, prog_7_method_1_code, none), (⟨"GateSayings$Town", "clear", "()V"⟩, prog_7_method_2_code, none), (⟨"GateSayings$Town", "copyFrom", "(LGateSayings$Town;)V"⟩, prog_7_method_3_code, none), (⟨"GateSayings$Town", "isGate", "(I)Z"⟩, prog_7_method_4_code, (some .boolean)), (⟨"GateSayings$Town", "isPerson", "(I)Z"⟩, prog_7_method_5_code, (some .boolean)), (⟨"GateSayings$Town", "addGate", "(III)Z"⟩, prog_7_method_6_code, (some .boolean)), (⟨"GateSayings$Town", "addPerson", "(I)Z"⟩, prog_7_method_7_code, (some .boolean)), (⟨"GateSayings$Town", "weight", "(II)I"⟩, prog_7_method_8_code, (some .int)), (⟨"GateSayings$Town", "distanceAt", "(IIII)I"⟩, prog_7_method_9_code, (some .int)), (⟨"GateSayings$Town", "distance", "(III)I"⟩, prog_7_method_10_code, (some .int)), (⟨"GateSayings$Town", "admits", "(II)Z"⟩, prog_7_method_11_code, (some .boolean)), (⟨"GateSayings$Town", "visit", "(II)Z"⟩, prog_7_method_12_code, (some .boolean)), (⟨"GateSayings$Town", "converse", "(II)V"⟩, prog_7_method_13_code, none), (⟨"GateSayings$Town", "settled", "()I"⟩, prog_7_method_14_code, (some .int)), (⟨"GateSayings$Town", "farTogether", "(II)I"⟩, prog_7_method_15_code, (some .int)), (⟨"GateSayings$Town", "middleSound", "(I)I"⟩, prog_7_method_16_code, (some .int)), (⟨"GateSayings$Town", "differsEverywhere", "(I)Z"⟩, prog_7_method_17_code, (some .boolean)), (⟨"GateSayings$Shelf", "<init>", "(I)V"⟩, prog_6_method_1_code, none), (⟨"GateSayings$Shelf", "clear", "()V"⟩, prog_6_method_2_code, none), (⟨"GateSayings$Shelf", "put", "(LGateSayings$Town;)V"⟩, prog_6_method_3_code, none), (⟨"GateSayings$Shelf", "takeInto", "(LGateSayings$Town;)Z"⟩, prog_6_method_4_code, (some .boolean)), (⟨"GateSayings$Shelf", "dropOldest", "()V"⟩, prog_6_method_5_code, none), (⟨"GateSayings$Script", "<init>", "()V"⟩, prog_5_method_1_code, none), (⟨"GateSayings$Script", "append", "(C)Z"⟩, prog_5_method_2_code, (some .boolean)), (⟨"GateSayings$Script", "readInto", "(LGateSayings$Town;)I"⟩, prog_5_method_3_code, (some .int)), (⟨"GateSayings$Script", "readGate", "(LGateSayings$Town;)Z"⟩, prog_5_method_4_code, (some .boolean)), (⟨"GateSayings$Script", "readPerson", "(LGateSayings$Town;)Z"⟩, prog_5_method_5_code, (some .boolean)), (⟨"GateSayings$Script", "takes", "(C)Z"⟩, prog_5_method_6_code, (some .boolean)), (⟨"GateSayings$Script", "takeFigure", "()I"⟩, prog_5_method_7_code, (some .int)), (⟨"GateSayings$Script", "takeNumber", "()I"⟩, prog_5_method_8_code, (some .int)), (⟨"GateSayings$Script", "takeSaying", "()I"⟩, prog_5_method_9_code, (some .int)), (⟨"GateSayings$Witness", "<init>", "()V"⟩, prog_8_method_1_code, none), (⟨"GateSayings$Witness", "clear", "()V"⟩, prog_8_method_2_code, none), (⟨"GateSayings$Witness", "noteSeen", "(IIZ)Z"⟩, prog_8_method_3_code, (some .boolean)), (⟨"GateSayings$Witness", "noteHeard", "(II)Z"⟩, prog_8_method_4_code, (some .boolean)), (⟨"GateSayings$Witness", "fits", "(LGateSayings$Town;III)Z"⟩, prog_8_method_5_code, (some .boolean)), (⟨"GateSayings$Witness", "misses", "(I)I"⟩, prog_8_method_6_code, (some .int)), (⟨"GateSayings$BestSearch", "<init>", "()V"⟩, prog_2_method_1_code, none), (⟨"GateSayings$BestSearch", "run", "(LGateSayings$Town;)V"⟩, prog_2_method_2_code, none), (⟨"GateSayings$BestSearch", "descend", "(LGateSayings$BestSearch;LGateSayings$Town;II)V"⟩, prog_2_method_3_code, none), (⟨"GateSayings$BestSearch", "spend", "(LGateSayings$Town;II)V"⟩, prog_2_method_4_code, none), (⟨"GateSayings$BestSearch", "inReach", "(LGateSayings$Town;I)I"⟩, prog_2_method_5_code, (some .int)), (⟨"GateSayings$LessonSearch", "<init>", "()V"⟩, prog_3_method_1_code, none), (⟨"GateSayings$LessonSearch", "run", "(LGateSayings$Town;II)V"⟩, prog_3_method_2_code, none), (⟨"GateSayings$LessonSearch", "goOn", "(LGateSayings$Town;IIZ)V"⟩, prog_3_method_3_code, none), (⟨"GateSayings$LessonSearch", "reach", "(II)V"⟩, prog_3_method_4_code, none), (⟨"GateSayings$LessonSearch", "forgetAll", "()V"⟩, prog_3_method_5_code, none), (⟨"GateSayings", "<init>", "()V"⟩, prog_1_method_1_code, none), (⟨"GateSayings", "write", "(I)I"⟩, prog_1_method_2_code, (some .int)), (⟨"GateSayings", "wipe", "()I"⟩, prog_1_method_3_code, (some .int)), (⟨"GateSayings", "fault", "()I"⟩, prog_1_method_4_code, (some .int)), (⟨"GateSayings", "lay", "()I"⟩, prog_1_method_5_code, (some .int)), (⟨"GateSayings", "gate", "(II)I"⟩, prog_1_method_6_code, (some .int)), (⟨"GateSayings", "person", "(II)I"⟩, prog_1_method_7_code, (some .int)), (⟨"GateSayings", "far", "(II)I"⟩, prog_1_method_8_code, (some .int)), (⟨"GateSayings", "ask", "(II)I"⟩, prog_1_method_9_code, (some .int)), (⟨"GateSayings", "talk", "(II)I"⟩, prog_1_method_10_code, (some .int)), (⟨"GateSayings", "listen", "(II)I"⟩, prog_1_method_11_code, (some .int)), (⟨"GateSayings", "undo", "()I"⟩, prog_1_method_12_code, (some .int)), (⟨"GateSayings", "opens", "(I)I"⟩, prog_1_method_13_code, (some .int)), (⟨"GateSayings", "best", "(I)I"⟩, prog_1_method_14_code, (some .int)), (⟨"GateSayings", "middle", "(I)I"⟩, prog_1_method_15_code, (some .int)), (⟨"GateSayings", "lessons", "(III)I"⟩, prog_1_method_16_code, (some .int)), (⟨"GateSayings", "apart", "(I)I"⟩, prog_1_method_17_code, (some .int)), (⟨"GateSayings", "crosses", "(III)I"⟩, prog_1_method_18_code, (some .int)), (⟨"GateSayings", "seen", "(III)I"⟩, prog_1_method_19_code, (some .int)), (⟨"GateSayings", "kinds", "(I)I"⟩, prog_1_method_20_code, (some .int)), (⟨"GateSayings", "ears", "(II)I"⟩, prog_1_method_21_code, (some .int)), (⟨"GateSayings", "heard", "(II)I"⟩, prog_1_method_22_code, (some .int)), (⟨"GateSayings", "from", "()I"⟩, prog_1_method_23_code, (some .int)), (⟨"GateSayings", "nearest", "(I)I"⟩, prog_1_method_24_code, (some .int)), (⟨"GateSayings", "forget", "()I"⟩, prog_1_method_25_code, (some .int)), (⟨"GateSayings", "likely", "(IIII)I"⟩, prog_1_method_26_code, (some .int)), (⟨"GateSayings", "year", "(III)I"⟩, prog_1_method_27_code, (some .int)), (⟨"GateSayings", "keep", "()I"⟩, prog_1_method_28_code, (some .int)), (⟨"GateSayings", "back", "()I"⟩, prog_1_method_29_code, (some .int)), (⟨"GateSayings", "count", "(I)I"⟩, prog_1_method_30_code, (some .int)), (⟨"GateSayings", "within", "(III)Z"⟩, prog_1_method_31_code, (some .boolean)), (⟨"GateSayings", "follow", "([III)I"⟩, prog_1_method_32_code, (some .int)), (⟨"GateSayings", "chance", "(II)I"⟩, prog_1_method_33_code, (some .int)), (⟨"GateSayings", "commonDivisor", "(II)I"⟩, prog_1_method_34_code, (some .int)), (⟨"GateSayings", "draw", "(II)I"⟩, prog_1_method_35_code, (some .int)), (⟨"GateSayings", "liveOnce", "(LGateSayings$Town;I)V"⟩, prog_1_method_36_code, none), (⟨"GateSayingsModel", "<init>", "()V"⟩, prog_10_method_1_code, none), (⟨"GateSayingsModel", "in", "(JJJ)Z"⟩, prog_10_method_2_code, (some .boolean)), (⟨"GateSayingsModel", "has", "(II)Z"⟩, prog_10_method_3_code, (some .boolean)), (⟨"GateSayingsModel", "ones", "(I)I"⟩, prog_10_method_4_code, (some .int)), (⟨"GateSayingsModel", "size", "(I)I"⟩, prog_10_method_5_code, (some .int)), (⟨"GateSayingsModel", "empty", "()V"⟩, prog_10_method_6_code, none), (⟨"GateSayingsModel", "say", "(II)V"⟩, prog_10_method_7_code, none), (⟨"GateSayingsModel", "gateIs", "(III)V"⟩, prog_10_method_8_code, none), (⟨"GateSayingsModel", "personIs", "(I)V"⟩, prog_10_method_9_code, none), (⟨"GateSayingsModel", "write", "(I)I"⟩, prog_10_method_10_code, (some .int)), (⟨"GateSayingsModel", "wipe", "()I"⟩, prog_10_method_11_code, (some .int)), (⟨"GateSayingsModel", "letterAt", "(I)I"⟩, prog_10_method_12_code, (some .int)), (⟨"GateSayingsModel", "numbers", "()Z"⟩, prog_10_method_13_code, (some .boolean)), (⟨"GateSayingsModel", "saying", "()Z"⟩, prog_10_method_14_code, (some .boolean)), (⟨"GateSayingsModel", "item", "()Z"⟩, prog_10_method_15_code, (some .boolean)), (⟨"GateSayingsModel", "readAll", "()I"⟩, prog_10_method_16_code, (some .int)), (⟨"GateSayingsModel", "fault", "()I"⟩, prog_10_method_17_code, (some .int)), (⟨"GateSayingsModel", "lay", "()I"⟩, prog_10_method_18_code, (some .int)), (⟨"GateSayingsModel", "begin", "()V"⟩, prog_10_method_19_code, none), (⟨"GateSayingsModel", "isGate", "(I)Z"⟩, prog_10_method_20_code, (some .boolean)), (⟨"GateSayingsModel", "isPerson", "(I)Z"⟩, prog_10_method_21_code, (some .boolean)), (⟨"GateSayingsModel", "aside", "()V"⟩, prog_10_method_22_code, none), (⟨"GateSayingsModel", "take", "()V"⟩, prog_10_method_23_code, none), (⟨"GateSayingsModel", "farBy", "(II)I"⟩, prog_10_method_24_code, (some .int)), (⟨"GateSayingsModel", "sayingOf", "(I)V"⟩, prog_10_method_25_code, none), (⟨"GateSayingsModel", "farOf", "(II)I"⟩, prog_10_method_26_code, (some .int)), (⟨"GateSayingsModel", "letsIn", "(II)Z"⟩, prog_10_method_27_code, (some .boolean)), (⟨"GateSayingsModel", "differ", "(IIZ)I"⟩, prog_10_method_28_code, (some .int)), (⟨"GateSayingsModel", "nearer", "(II)I"⟩, prog_10_method_29_code, (some .int)), (⟨"GateSayingsModel", "goAsk", "(II)Z"⟩, prog_10_method_30_code, (some .boolean)), (⟨"GateSayingsModel", "goNearer", "(II)I"⟩, prog_10_method_31_code, (some .int)), (⟨"GateSayingsModel", "gate", "(II)I"⟩, prog_10_method_32_code, (some .int)), (⟨"GateSayingsModel", "person", "(II)I"⟩, prog_10_method_33_code, (some .int)), (⟨"GateSayingsModel", "far", "(II)I"⟩, prog_10_method_34_code, (some .int)), (⟨"GateSayingsModel", "note", "()V"⟩, prog_10_method_35_code, none), (⟨"GateSayingsModel", "ask", "(II)I"⟩, prog_10_method_36_code, (some .int)), (⟨"GateSayingsModel", "goes", "(II)I"⟩, prog_10_method_37_code, (some .int)), (⟨"GateSayingsModel", "talk", "(II)I"⟩, prog_10_method_38_code, (some .int)), (⟨"GateSayingsModel", "listen", "(II)I"⟩, prog_10_method_39_code, (some .int)), (⟨"GateSayingsModel", "undo", "()I"⟩, prog_10_method_40_code, (some .int)), (⟨"GateSayingsModel", "opens", "(I)I"⟩, prog_10_method_41_code, (some .int)), (⟨"GateSayingsModel", "sayingIs", "(I)V"⟩, prog_10_method_42_code, none), (⟨"GateSayingsModel", "openTo", "()I"⟩, prog_10_method_43_code, (some .int)), (⟨"GateSayingsModel", "farFromAll", "()I"⟩, prog_10_method_44_code, (some .int)), (⟨"GateSayingsModel", "best", "(I)I"⟩, prog_10_method_45_code, (some .int)), (⟨"GateSayingsModel", "middle", "(I)I"⟩, prog_10_method_46_code, (some .int)), (⟨"GateSayingsModel", "codeOf", "(I)I"⟩, prog_10_method_47_code, (some .int)), (⟨"GateSayingsModel", "learns", "(II)V"⟩, prog_10_method_48_code, none), (⟨"GateSayingsModel", "lessons", "(III)I"⟩, prog_10_method_49_code, (some .int)), (⟨"GateSayingsModel", "apart", "(I)I"⟩, prog_10_method_50_code, (some .int)), (⟨"GateSayingsModel", "parts", "(III)Z"⟩, prog_10_method_51_code, (some .boolean)), (⟨"GateSayingsModel", "crosses", "(III)I"⟩, prog_10_method_52_code, (some .int)), (⟨"GateSayingsModel", "seen", "(III)I"⟩, prog_10_method_53_code, (some .int)), (⟨"GateSayingsModel", "isSeen", "(III)Z"⟩, prog_10_method_54_code, (some .boolean)), (⟨"GateSayingsModel", "kinds", "(I)I"⟩, prog_10_method_55_code, (some .int)), (⟨"GateSayingsModel", "ears", "(II)I"⟩, prog_10_method_56_code, (some .int)), (⟨"GateSayingsModel", "heard", "(II)I"⟩, prog_10_method_57_code, (some .int)), (⟨"GateSayingsModel", "differs", "(I)I"⟩, prog_10_method_58_code, (some .int)), (⟨"GateSayingsModel", "from", "()I"⟩, prog_10_method_59_code, (some .int)), (⟨"GateSayingsModel", "nearest", "(I)I"⟩, prog_10_method_60_code, (some .int)), (⟨"GateSayingsModel", "forget", "()I"⟩, prog_10_method_61_code, (some .int)), (⟨"GateSayingsModel", "likely", "(IIII)I"⟩, prog_10_method_62_code, (some .int)), (⟨"GateSayingsModel", "goDrawn", "(I)V"⟩, prog_10_method_63_code, none), (⟨"GateSayingsModel", "ofGates", "(Z)I"⟩, prog_10_method_64_code, (some .int)), (⟨"GateSayingsModel", "year", "(III)I"⟩, prog_10_method_65_code, (some .int)), (⟨"GateSayingsModel", "keep", "()I"⟩, prog_10_method_66_code, (some .int)), (⟨"GateSayingsModel", "back", "()I"⟩, prog_10_method_67_code, (some .int)), (⟨"GateSayingsModel", "count", "(I)I"⟩, prog_10_method_68_code, (some .int)), (⟨"GateSayingsLaw", "law", "([I)Z"⟩, code, (some .boolean))]
def vm_m0 : MethodName × ByteArray × Option FieldType := (⟨"", "", ""⟩, .empty, none)
def vm_y (n : Nat) : MethodName := (vm_mi.getD n vm_m0).1
def vm_b (n : Nat) : ByteArray := (vm_mi.getD n vm_m0).2.1
def vm_rt (n : Nat) : Option FieldType := (vm_mi.getD n vm_m0).2.2
def vm_tb : List Jvm.Cond := lw_tbl.filter goodWord
def vm_yl : MethodName := ⟨"java/lang/String", "length", "()I"⟩
def vm_yc : MethodName := ⟨"java/lang/String", "charAt", "(I)C"⟩
/-- calls of a private member of a nest mate: the caller's class, the place in its pool, the method, the nest's host -/
def vm_nests : List (String × Nat × Nat × String) := [("GateSayings", 9, n_SC_init, "GateSayings"), ("GateSayings", 18, n_TN_init, "GateSayings"), ("GateSayings", 40, n_WI_init, "GateSayings"), ("GateSayings", 47, n_BS_init, "GateSayings"), ("GateSayings", 54, n_LS_init, "GateSayings"), ("GateSayings$Script", 42, n_G_within, "GateSayings"), ("GateSayings$Shelf", 21, n_TN_init, "GateSayings")]
def vm_nest (own : String) (x a : Nat) : Bool := vm_nests.any fun q => decide (q.1 = own) && (decide (q.2.1 = x) && decide (q.2.2.1 = a))
def vm_tag : ArrayType → Nat
  | .int => 0
  | .char => 1
  | .boolean => 2
  | .long => 3
  | _ => 99
/-- the words of the tables that a row needs -/
def vm_need (own : String) (e : vm_E) : List Jvm.Cond := match e with
  | (_, i, _, a, b, kI, kL) => match i with
    | .getfield x => [.fieldLink own x (vm_T a b).1 (vm_T a b).2.1 (vm_T a b).2.2.1]
    | .putfield x => [.fieldLink own x (vm_T a b).1 (vm_T a b).2.1 (vm_T a b).2.2.1]
    | .new x => [.classLink own x (vm_R a), .instantiable (vm_R a) b, .initialized (vm_R a)]
    | .newarray t => [.arrayClass (newarray.typeOf t)]
    | .anewarray x => [.classLink own x (vm_R 4)]
    | .multianewarray x _ => [.classLink own x "[[I", .arrayClass .int]
    | .ldc x => if a = 906 then [] else [.constant own x kI]
    | .ldc_w x => [.constant own x kI]
    | .ldc2_w x => [.constantLong own x kL]
    | .invokevirtual x =>
      if a = 904 then [.methodLink own x vm_yl, .instanceMethod vm_yl, .selects vm_yl.cls vm_yl vm_yl, .initialized vm_yl.cls]
      else if a = 905 then [.methodLink own x vm_yc, .instanceMethod vm_yc, .selects vm_yc.cls vm_yc vm_yc, .initialized vm_yc.cls]
      else [.methodLink own x (vm_y a), .instanceMethod (vm_y a), .selects (vm_y a).cls (vm_y a) (vm_y a), .initialized (vm_y a).cls, .code (vm_y a) (vm_b a) (vm_mx a) (vm_rt a)]
    | .invokestatic x =>
      if a = 900 then [.methodLink own x Lib.Math.abs.name, .static Lib.Math.abs.name, .initialized "java/lang/Math", .code Lib.Math.abs.name Lib.Math.abs.code 1 (some .int)]
      else if a = 901 then [.methodLink own x Lib.Math.max.name, .static Lib.Math.max.name, .initialized "java/lang/Math", .code Lib.Math.max.name Lib.Math.max.code 2 (some .int)]
      else if a = 902 then [.methodLink own x arraycopyName, .native arraycopyName, .static arraycopyName, .initialized "java/lang/System"]
      else (if vm_nest own x a then [] else [.methodLink own x (vm_y a)]) ++ [.static (vm_y a), .initialized (vm_y a).cls, .code (vm_y a) (vm_b a) (vm_mx a) (vm_rt a)]
    | .invokespecial x =>
      if a = 903 then [.methodLink own x objectInit, .instanceMethod objectInit, .code objectInit ⟨#[0xb1]⟩ 1 none]
      else (if vm_nest own x a then [] else [.methodLink own x (vm_y a)]) ++ [.instanceMethod (vm_y a), .initialized (vm_y a).cls, .code (vm_y a) (vm_b a) (vm_mx a) (vm_rt a)]
    | _ => []
def vm_len : Instr → Nat
  | .iload _ => 2 | .aload _ => 2 | .lload _ => 2 | .istore _ => 2 | .astore _ => 2 | .lstore _ => 2 | .bipush _ => 2 | .ldc _ => 2 | .newarray _ => 2
  | .sipush _ => 3 | .ldc_w _ => 3 | .ldc2_w _ => 3 | .iinc _ _ => 3 | .goto _ => 3 | .if_icmp _ _ => 3 | .ifCond _ _ => 3 | .ifnull _ => 3 | .ifnonnull _ => 3
  | .getfield _ => 3 | .putfield _ => 3 | .invokevirtual _ => 3 | .invokestatic _ => 3 | .invokespecial _ => 3 | .new _ => 3 | .anewarray _ => 3
  | .multianewarray _ _ => 4
  | _ => 1
def vm_npar (y : MethodName) : Option Nat := (parseMethodDescriptor y.desc).map fun q => q.parameters.length
def vm_plain (y : MethodName) : Bool := decide (y.cls ≠ "java/lang/invoke/MethodHandle") && decide (y.cls ≠ "java/lang/invoke/VarHandle")
/-- what else must be so of a row -/
def vm_chk (own : String) (ini : Bool) (rt : Option FieldType) (e : vm_E) : Bool := match e with
  | (pc, i, n, a, b, kI, kL) => match i with
    | .tableswitch _ _ _ _ => true
    | .iconst z => decide (n = pc + 1) && decide (Int32.ofInt z = kI)
    | .bipush z => decide (n = pc + 2) && decide ((Int8.ofInt z).toInt32 = kI)
    | .sipush z => decide (n = pc + 3) && decide ((Int16.ofInt z).toInt32 = kI)
    | .ldc x => decide (n = pc + 2) && (decide (a ≠ 906) || (decide (own = "GateSayings") && decide (x = 59)))
    | .lconst z => decide (n = pc + 1) && decide (Int64.ofNat (z : Nat) = kL)
    | .iinc _ z => decide (n = pc + 3) && decide (Int32.ofInt z = kI)
    | .goto o => decide (n = pc + 3) && decide ((pc : Int) + o = (a : Int))
    | .if_icmp _ o => decide (n = pc + 3) && decide ((pc : Int) + o = (a : Int))
    | .ifCond _ o => decide (n = pc + 3) && decide ((pc : Int) + o = (a : Int))
    | .ifnull o => decide (n = pc + 3) && decide ((pc : Int) + o = (a : Int))
    | .ifnonnull o => decide (n = pc + 3) && decide ((pc : Int) + o = (a : Int))
    | .getfield _ => decide (n = pc + 3) && (decide (a < 8) && decide (b < vm_N a))
    | .putfield _ => decide (n = pc + 3) && (decide (a < 8) && (decide (b < vm_N a) && (!(vm_T a b).2.2.2 || (ini && decide ((vm_T a b).1 = own)))))
    | .new _ => decide (n = pc + 3) && (decide (a < 8) && decide (b = vm_N a))
    | .newarray t => decide (n = pc + 2) && decide (a = vm_tag t)
    | .invokevirtual _ => decide (n = pc + 3) && (decide (a ≥ 900) || (decide (a < 161) && (decide (vm_R (vm_mc a) = (vm_y a).cls) && (decide (vm_mc a < 8) && decide ((vm_npar (vm_y a)).map (· + 1) = some b)))))
    | .invokestatic _ => decide (n = pc + 3) && (decide (a ≥ 900) || (decide (a < 161) && decide (vm_npar (vm_y a) = some b)))
    | .invokespecial _ => decide (n = pc + 3) && (decide (a ≥ 900) || (decide (a < 161) && (decide ((vm_y a).name = "<init>") && decide ((vm_npar (vm_y a)).map (· + 1) = some b))))
    | .ireturn => decide (n = pc + 1) && ((decide (rt = some .int) && decide (b = 0)) || (decide (rt = some .boolean) && decide (b = 1)))
    | .return_ => decide (n = pc + 1) && decide (rt = none)
    | _ => decide (n = pc + vm_len i)
/-- a method's rows are the code's, and all that they need is so -/
def vm_KO (k : List vm_E) (bb : ByteArray) (own : String) (ini : Bool) (rt : Option FieldType) : Prop :=
  ∀ e ∈ k, decode bb e.1 = .ok (e.2.1, e.2.2.1 - e.1) ∧ vm_chk own ini rt e = true ∧ ∀ w ∈ vm_need own e, w ∈ vm_tb
theorem vm_KO_of {k : List vm_E} {bb : ByteArray} {own : String} {ini : Bool} {rt : Option FieldType} (ps : List Nat) (h1 : ∀ e ∈ k, decode bb e.1 = .ok (e.2.1, e.2.2.1 - e.1)) (h2 : k.all (vm_chk own ini rt) = true)
    (h3 : k.flatMap (vm_need own) = ps.filterMap (fun i => lw_tbl[i]?)) (h4 : (k.flatMap (vm_need own)).all goodWord = true) : vm_KO k bb own ini rt := by
  intro e he
  refine ⟨h1 e he, List.all_eq_true.mp h2 e he, fun w hw => ?_⟩
  have hm : w ∈ k.flatMap (vm_need own) := List.mem_flatMap.mpr ⟨e, he, hw⟩
  refine List.mem_filter.mpr ⟨?_, List.all_eq_true.mp h4 w hm⟩
  rw [h3] at hm
  obtain ⟨i, -, hi⟩ := List.mem_filterMap.mp hm
  first | exact List.mem_of_getElem? hi | exact List.getElem?_mem hi
theorem vm_KO_app {k1 k2 : List vm_E} {bb : ByteArray} {own : String} {ini : Bool} {rt : Option FieldType} (h1 : vm_KO k1 bb own ini rt) (h2 : vm_KO k2 bb own ini rt) : vm_KO (k1 ++ k2) bb own ini rt :=
  fun e he => (List.mem_append.mp he).elim (h1 e) (h2 e)
