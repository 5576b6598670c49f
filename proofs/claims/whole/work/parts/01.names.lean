-- ===== PART A: goes FIRST, ahead of the names: the tables' words, and 'selects' of the private methods out of them =====
/-- a private method of a class that the tables say can be made, by its rows of tables_1 -/
def lw_okq (q : MethodName × Nat) : Prop := (q.1.cls ≠ "java/lang/invoke/MethodHandle" ∧ q.1.cls ≠ "java/lang/invoke/VarHandle") ∧ Cond.instantiable q.1.cls q.2 ∈ tables_1 ∧ Cond.privateMethod q.1 ∈ tables_1 ∧ Cond.instanceMethod q.1 ∈ tables_1
theorem lw_p0 : lw_okq (⟨"PlushFlocks$Reader", "isTokenStart", "(I)Z"⟩, 9) := ⟨⟨by decide +kernel, by decide +kernel⟩, List.mem_of_getElem? (i := 240) (by decide +kernel), List.mem_of_getElem? (i := 285) (by decide +kernel), List.mem_of_getElem? (i := 286) (by decide +kernel)⟩
theorem lw_p1 : lw_okq (⟨"PlushFlocks$Reader", "letterAt", "(I)C"⟩, 9) := ⟨⟨by decide +kernel, by decide +kernel⟩, List.mem_of_getElem? (i := 240) (by decide +kernel), List.mem_of_getElem? (i := 289) (by decide +kernel), List.mem_of_getElem? (i := 290) (by decide +kernel)⟩
theorem lw_p2 : lw_okq (⟨"PlushFlocks$Reader", "isDigit", "(I)Z"⟩, 9) := ⟨⟨by decide +kernel, by decide +kernel⟩, List.mem_of_getElem? (i := 240) (by decide +kernel), List.mem_of_getElem? (i := 293) (by decide +kernel), List.mem_of_getElem? (i := 294) (by decide +kernel)⟩
theorem lw_p3 : lw_okq (⟨"PlushFlocks$Reader", "takes", "(I)Z"⟩, 9) := ⟨⟨by decide +kernel, by decide +kernel⟩, List.mem_of_getElem? (i := 240) (by decide +kernel), List.mem_of_getElem? (i := 297) (by decide +kernel), List.mem_of_getElem? (i := 298) (by decide +kernel)⟩
theorem lw_p4 : lw_okq (⟨"PlushFlocks$Reader", "numberAt", "(I)I"⟩, 9) := ⟨⟨by decide +kernel, by decide +kernel⟩, List.mem_of_getElem? (i := 240) (by decide +kernel), List.mem_of_getElem? (i := 301) (by decide +kernel), List.mem_of_getElem? (i := 302) (by decide +kernel)⟩
theorem lw_p5 : lw_okq (⟨"PlushFlocks$Reader", "takesNumber", "(I)Z"⟩, 9) := ⟨⟨by decide +kernel, by decide +kernel⟩, List.mem_of_getElem? (i := 240) (by decide +kernel), List.mem_of_getElem? (i := 305) (by decide +kernel), List.mem_of_getElem? (i := 306) (by decide +kernel)⟩
theorem lw_p6 : lw_okq (⟨"PlushFlocks$Reader", "mayBe", "(I)Z"⟩, 9) := ⟨⟨by decide +kernel, by decide +kernel⟩, List.mem_of_getElem? (i := 240) (by decide +kernel), List.mem_of_getElem? (i := 309) (by decide +kernel), List.mem_of_getElem? (i := 310) (by decide +kernel)⟩
theorem lw_p7 : lw_okq (⟨"PlushFlocks$Reader", "mayTellRoom", "(I)Z"⟩, 9) := ⟨⟨by decide +kernel, by decide +kernel⟩, List.mem_of_getElem? (i := 240) (by decide +kernel), List.mem_of_getElem? (i := 313) (by decide +kernel), List.mem_of_getElem? (i := 314) (by decide +kernel)⟩
theorem lw_p8 : lw_okq (⟨"PlushFlocks$Reader", "mayTellFlock", "(I)Z"⟩, 9) := ⟨⟨by decide +kernel, by decide +kernel⟩, List.mem_of_getElem? (i := 240) (by decide +kernel), List.mem_of_getElem? (i := 321) (by decide +kernel), List.mem_of_getElem? (i := 322) (by decide +kernel)⟩
theorem lw_p9 : lw_okq (⟨"PlushFlocks$Reader", "takesEnd", "()Z"⟩, 9) := ⟨⟨by decide +kernel, by decide +kernel⟩, List.mem_of_getElem? (i := 240) (by decide +kernel), List.mem_of_getElem? (i := 325) (by decide +kernel), List.mem_of_getElem? (i := 326) (by decide +kernel)⟩
theorem lw_p10 : lw_okq (⟨"PlushFlocks$Reader", "takesLetter", "(C)Z"⟩, 9) := ⟨⟨by decide +kernel, by decide +kernel⟩, List.mem_of_getElem? (i := 240) (by decide +kernel), List.mem_of_getElem? (i := 359) (by decide +kernel), List.mem_of_getElem? (i := 360) (by decide +kernel)⟩
theorem lw_p11 : lw_okq (⟨"PlushFlocks", "stepsTillBare", "(I)I"⟩, 11) := ⟨⟨by decide +kernel, by decide +kernel⟩, List.mem_of_getElem? (i := 13) (by decide +kernel), List.mem_of_getElem? (i := 388) (by decide +kernel), List.mem_of_getElem? (i := 389) (by decide +kernel)⟩
theorem lw_p12 : lw_okq (⟨"PlushFlocks$Evening", "act", "(LPlushFlocks$Plan;I)I"⟩, 6) := ⟨⟨by decide +kernel, by decide +kernel⟩, List.mem_of_getElem? (i := 83) (by decide +kernel), List.mem_of_getElem? (i := 400) (by decide +kernel), List.mem_of_getElem? (i := 401) (by decide +kernel)⟩
theorem lw_p13 : lw_okq (⟨"PlushFlocks$Evening", "graze", "(LPlushFlocks$Plan;II)I"⟩, 6) := ⟨⟨by decide +kernel, by decide +kernel⟩, List.mem_of_getElem? (i := 83) (by decide +kernel), List.mem_of_getElem? (i := 409) (by decide +kernel), List.mem_of_getElem? (i := 410) (by decide +kernel)⟩
theorem lw_p14 : lw_okq (⟨"PlushFlocks$Evening", "carpeted", "()I"⟩, 6) := ⟨⟨by decide +kernel, by decide +kernel⟩, List.mem_of_getElem? (i := 83) (by decide +kernel), List.mem_of_getElem? (i := 420) (by decide +kernel), List.mem_of_getElem? (i := 421) (by decide +kernel)⟩
theorem lw_p15 : lw_okq (⟨"PlushFlocks$WayBack", "reach", "(II)Z"⟩, 5) := ⟨⟨by decide +kernel, by decide +kernel⟩, List.mem_of_getElem? (i := 168) (by decide +kernel), List.mem_of_getElem? (i := 509) (by decide +kernel), List.mem_of_getElem? (i := 510) (by decide +kernel)⟩
def lw_privs_1 : List (MethodName × Nat) := [(⟨"PlushFlocks$Reader", "isTokenStart", "(I)Z"⟩, 9), (⟨"PlushFlocks$Reader", "letterAt", "(I)C"⟩, 9), (⟨"PlushFlocks$Reader", "isDigit", "(I)Z"⟩, 9), (⟨"PlushFlocks$Reader", "takes", "(I)Z"⟩, 9), (⟨"PlushFlocks$Reader", "numberAt", "(I)I"⟩, 9), (⟨"PlushFlocks$Reader", "takesNumber", "(I)Z"⟩, 9), (⟨"PlushFlocks$Reader", "mayBe", "(I)Z"⟩, 9), (⟨"PlushFlocks$Reader", "mayTellRoom", "(I)Z"⟩, 9), (⟨"PlushFlocks$Reader", "mayTellFlock", "(I)Z"⟩, 9), (⟨"PlushFlocks$Reader", "takesEnd", "()Z"⟩, 9), (⟨"PlushFlocks$Reader", "takesLetter", "(C)Z"⟩, 9), (⟨"PlushFlocks", "stepsTillBare", "(I)I"⟩, 11), (⟨"PlushFlocks$Evening", "act", "(LPlushFlocks$Plan;I)I"⟩, 6), (⟨"PlushFlocks$Evening", "graze", "(LPlushFlocks$Plan;II)I"⟩, 6), (⟨"PlushFlocks$Evening", "carpeted", "()I"⟩, 6), (⟨"PlushFlocks$WayBack", "reach", "(II)Z"⟩, 5)]
theorem lw_r1 : ∀ q ∈ lw_privs_1, lw_okq q := List.forall_mem_cons.mpr ⟨lw_p0, List.forall_mem_cons.mpr ⟨lw_p1, List.forall_mem_cons.mpr ⟨lw_p2, List.forall_mem_cons.mpr ⟨lw_p3, List.forall_mem_cons.mpr ⟨lw_p4, List.forall_mem_cons.mpr ⟨lw_p5, List.forall_mem_cons.mpr ⟨lw_p6, List.forall_mem_cons.mpr ⟨lw_p7, List.forall_mem_cons.mpr ⟨lw_p8, List.forall_mem_cons.mpr ⟨lw_p9, List.forall_mem_cons.mpr ⟨lw_p10, List.forall_mem_cons.mpr ⟨lw_p11, List.forall_mem_cons.mpr ⟨lw_p12, List.forall_mem_cons.mpr ⟨lw_p13, List.forall_mem_cons.mpr ⟨lw_p14, List.forall_mem_cons.mpr ⟨lw_p15, fun _ h => absurd h List.not_mem_nil⟩⟩⟩⟩⟩⟩⟩⟩⟩⟩⟩⟩⟩⟩⟩⟩
theorem lw_p16 : lw_okq (⟨"PlushFlocks$WayBack", "spread", "(LPlushFlocks$Plan;II)V"⟩, 5) := ⟨⟨by decide +kernel, by decide +kernel⟩, List.mem_of_getElem? (i := 168) (by decide +kernel), List.mem_of_getElem? (i := 513) (by decide +kernel), List.mem_of_getElem? (i := 514) (by decide +kernel)⟩
theorem lw_p17 : lw_okq (⟨"PlushFlocks$WayBack", "arrive", "(III)V"⟩, 5) := ⟨⟨by decide +kernel, by decide +kernel⟩, List.mem_of_getElem? (i := 168) (by decide +kernel), List.mem_of_getElem? (i := 522) (by decide +kernel), List.mem_of_getElem? (i := 523) (by decide +kernel)⟩
theorem lw_p18 : lw_okq (⟨"PlushFlocks", "sendsHome", "(I)Z"⟩, 11) := ⟨⟨by decide +kernel, by decide +kernel⟩, List.mem_of_getElem? (i := 13) (by decide +kernel), List.mem_of_getElem? (i := 530) (by decide +kernel), List.mem_of_getElem? (i := 531) (by decide +kernel)⟩
theorem lw_p19 : lw_okq (⟨"PlushFlocks$Grazing", "agrees", "(LPlushFlocks$Plan;I)Z"⟩, 7) := ⟨⟨by decide +kernel, by decide +kernel⟩, List.mem_of_getElem? (i := 136) (by decide +kernel), List.mem_of_getElem? (i := 582) (by decide +kernel), List.mem_of_getElem? (i := 583) (by decide +kernel)⟩
theorem lw_p20 : lw_okq (⟨"PlushFlocks$Grazing", "add", "(LPlushFlocks$Plan;I)V"⟩, 7) := ⟨⟨by decide +kernel, by decide +kernel⟩, List.mem_of_getElem? (i := 136) (by decide +kernel), List.mem_of_getElem? (i := 591) (by decide +kernel), List.mem_of_getElem? (i := 592) (by decide +kernel)⟩
theorem lw_p21 : lw_okq (⟨"PlushFlocks", "pile", "(I)I"⟩, 11) := ⟨⟨by decide +kernel, by decide +kernel⟩, List.mem_of_getElem? (i := 13) (by decide +kernel), List.mem_of_getElem? (i := 611) (by decide +kernel), List.mem_of_getElem? (i := 612) (by decide +kernel)⟩
theorem lw_p22 : lw_okq (⟨"PlushFlocks", "cord", "(I)I"⟩, 11) := ⟨⟨by decide +kernel, by decide +kernel⟩, List.mem_of_getElem? (i := 13) (by decide +kernel), List.mem_of_getElem? (i := 615) (by decide +kernel), List.mem_of_getElem? (i := 616) (by decide +kernel)⟩
theorem lw_p23 : lw_okq (⟨"PlushFlocks", "nap", "(I)I"⟩, 11) := ⟨⟨by decide +kernel, by decide +kernel⟩, List.mem_of_getElem? (i := 13) (by decide +kernel), List.mem_of_getElem? (i := 620) (by decide +kernel), List.mem_of_getElem? (i := 621) (by decide +kernel)⟩
theorem lw_p24 : lw_okq (⟨"PlushFlocks", "damask", "(I)I"⟩, 11) := ⟨⟨by decide +kernel, by decide +kernel⟩, List.mem_of_getElem? (i := 13) (by decide +kernel), List.mem_of_getElem? (i := 625) (by decide +kernel), List.mem_of_getElem? (i := 626) (by decide +kernel)⟩
theorem lw_p25 : lw_okq (⟨"PlushFlocks", "velvet", "(I)I"⟩, 11) := ⟨⟨by decide +kernel, by decide +kernel⟩, List.mem_of_getElem? (i := 13) (by decide +kernel), List.mem_of_getElem? (i := 630) (by decide +kernel), List.mem_of_getElem? (i := 631) (by decide +kernel)⟩
theorem lw_p26 : lw_okq (⟨"PlushFlocks", "fringe", "(I)I"⟩, 11) := ⟨⟨by decide +kernel, by decide +kernel⟩, List.mem_of_getElem? (i := 13) (by decide +kernel), List.mem_of_getElem? (i := 635) (by decide +kernel), List.mem_of_getElem? (i := 636) (by decide +kernel)⟩
theorem lw_p27 : lw_okq (⟨"PlushFlocksModel", "reads", "()Z"⟩, 19) := ⟨⟨by decide +kernel, by decide +kernel⟩, List.mem_of_getElem? (i := 657) (by decide +kernel), List.mem_of_getElem? (i := 663) (by decide +kernel), List.mem_of_getElem? (i := 664) (by decide +kernel)⟩
theorem lw_p28 : lw_okq (⟨"PlushFlocksModel", "token", "()V"⟩, 19) := ⟨⟨by decide +kernel, by decide +kernel⟩, List.mem_of_getElem? (i := 657) (by decide +kernel), List.mem_of_getElem? (i := 667) (by decide +kernel), List.mem_of_getElem? (i := 668) (by decide +kernel)⟩
theorem lw_p29 : lw_okq (⟨"PlushFlocksModel", "letterAt", "(I)I"⟩, 19) := ⟨⟨by decide +kernel, by decide +kernel⟩, List.mem_of_getElem? (i := 657) (by decide +kernel), List.mem_of_getElem? (i := 671) (by decide +kernel), List.mem_of_getElem? (i := 672) (by decide +kernel)⟩
theorem lw_p30 : lw_okq (⟨"PlushFlocksModel", "readsItem", "()Z"⟩, 19) := ⟨⟨by decide +kernel, by decide +kernel⟩, List.mem_of_getElem? (i := 657) (by decide +kernel), List.mem_of_getElem? (i := 684) (by decide +kernel), List.mem_of_getElem? (i := 685) (by decide +kernel)⟩
theorem lw_p31 : lw_okq (⟨"PlushFlocksModel", "number", "(III)Z"⟩, 19) := ⟨⟨by decide +kernel, by decide +kernel⟩, List.mem_of_getElem? (i := 657) (by decide +kernel), List.mem_of_getElem? (i := 688) (by decide +kernel), List.mem_of_getElem? (i := 689) (by decide +kernel)⟩
def lw_privs_2 : List (MethodName × Nat) := [(⟨"PlushFlocks$WayBack", "spread", "(LPlushFlocks$Plan;II)V"⟩, 5), (⟨"PlushFlocks$WayBack", "arrive", "(III)V"⟩, 5), (⟨"PlushFlocks", "sendsHome", "(I)Z"⟩, 11), (⟨"PlushFlocks$Grazing", "agrees", "(LPlushFlocks$Plan;I)Z"⟩, 7), (⟨"PlushFlocks$Grazing", "add", "(LPlushFlocks$Plan;I)V"⟩, 7), (⟨"PlushFlocks", "pile", "(I)I"⟩, 11), (⟨"PlushFlocks", "cord", "(I)I"⟩, 11), (⟨"PlushFlocks", "nap", "(I)I"⟩, 11), (⟨"PlushFlocks", "damask", "(I)I"⟩, 11), (⟨"PlushFlocks", "velvet", "(I)I"⟩, 11), (⟨"PlushFlocks", "fringe", "(I)I"⟩, 11), (⟨"PlushFlocksModel", "reads", "()Z"⟩, 19), (⟨"PlushFlocksModel", "token", "()V"⟩, 19), (⟨"PlushFlocksModel", "letterAt", "(I)I"⟩, 19), (⟨"PlushFlocksModel", "readsItem", "()Z"⟩, 19), (⟨"PlushFlocksModel", "number", "(III)Z"⟩, 19)]
theorem lw_r2 : ∀ q ∈ lw_privs_2, lw_okq q := List.forall_mem_cons.mpr ⟨lw_p16, List.forall_mem_cons.mpr ⟨lw_p17, List.forall_mem_cons.mpr ⟨lw_p18, List.forall_mem_cons.mpr ⟨lw_p19, List.forall_mem_cons.mpr ⟨lw_p20, List.forall_mem_cons.mpr ⟨lw_p21, List.forall_mem_cons.mpr ⟨lw_p22, List.forall_mem_cons.mpr ⟨lw_p23, List.forall_mem_cons.mpr ⟨lw_p24, List.forall_mem_cons.mpr ⟨lw_p25, List.forall_mem_cons.mpr ⟨lw_p26, List.forall_mem_cons.mpr ⟨lw_p27, List.forall_mem_cons.mpr ⟨lw_p28, List.forall_mem_cons.mpr ⟨lw_p29, List.forall_mem_cons.mpr ⟨lw_p30, List.forall_mem_cons.mpr ⟨lw_p31, fun _ h => absurd h List.not_mem_nil⟩⟩⟩⟩⟩⟩⟩⟩⟩⟩⟩⟩⟩⟩⟩⟩
theorem lw_p32 : lw_okq (⟨"PlushFlocksModel", "isNumber", "(II)Z"⟩, 19) := ⟨⟨by decide +kernel, by decide +kernel⟩, List.mem_of_getElem? (i := 657) (by decide +kernel), List.mem_of_getElem? (i := 692) (by decide +kernel), List.mem_of_getElem? (i := 693) (by decide +kernel)⟩
theorem lw_p33 : lw_okq (⟨"PlushFlocksModel", "readsDoor", "()Z"⟩, 19) := ⟨⟨by decide +kernel, by decide +kernel⟩, List.mem_of_getElem? (i := 657) (by decide +kernel), List.mem_of_getElem? (i := 696) (by decide +kernel), List.mem_of_getElem? (i := 697) (by decide +kernel)⟩
theorem lw_p34 : lw_okq (⟨"PlushFlocksModel", "begins", "()V"⟩, 19) := ⟨⟨by decide +kernel, by decide +kernel⟩, List.mem_of_getElem? (i := 657) (by decide +kernel), List.mem_of_getElem? (i := 700) (by decide +kernel), List.mem_of_getElem? (i := 701) (by decide +kernel)⟩
theorem lw_p35 : lw_okq (⟨"PlushFlocksModel", "isRoom", "(I)Z"⟩, 19) := ⟨⟨by decide +kernel, by decide +kernel⟩, List.mem_of_getElem? (i := 657) (by decide +kernel), List.mem_of_getElem? (i := 779) (by decide +kernel), List.mem_of_getElem? (i := 780) (by decide +kernel)⟩
theorem lw_p36 : lw_okq (⟨"PlushFlocksModel", "inRoom", "(I)I"⟩, 19) := ⟨⟨by decide +kernel, by decide +kernel⟩, List.mem_of_getElem? (i := 657) (by decide +kernel), List.mem_of_getElem? (i := 783) (by decide +kernel), List.mem_of_getElem? (i := 784) (by decide +kernel)⟩
theorem lw_p37 : lw_okq (⟨"PlushFlocksModel", "bare", "(I)I"⟩, 19) := ⟨⟨by decide +kernel, by decide +kernel⟩, List.mem_of_getElem? (i := 657) (by decide +kernel), List.mem_of_getElem? (i := 787) (by decide +kernel), List.mem_of_getElem? (i := 788) (by decide +kernel)⟩
theorem lw_p38 : lw_okq (⟨"PlushFlocksModel", "holds", "()V"⟩, 19) := ⟨⟨by decide +kernel, by decide +kernel⟩, List.mem_of_getElem? (i := 657) (by decide +kernel), List.mem_of_getElem? (i := 791) (by decide +kernel), List.mem_of_getElem? (i := 792) (by decide +kernel)⟩
theorem lw_p39 : lw_okq (⟨"PlushFlocksModel", "steps", "()I"⟩, 19) := ⟨⟨by decide +kernel, by decide +kernel⟩, List.mem_of_getElem? (i := 657) (by decide +kernel), List.mem_of_getElem? (i := 795) (by decide +kernel), List.mem_of_getElem? (i := 796) (by decide +kernel)⟩
theorem lw_p40 : lw_okq (⟨"PlushFlocksModel", "beyond", "(IZ)I"⟩, 19) := ⟨⟨by decide +kernel, by decide +kernel⟩, List.mem_of_getElem? (i := 657) (by decide +kernel), List.mem_of_getElem? (i := 802) (by decide +kernel), List.mem_of_getElem? (i := 803) (by decide +kernel)⟩
theorem lw_p41 : lw_okq (⟨"PlushFlocksModel", "lets", "()V"⟩, 19) := ⟨⟨by decide +kernel, by decide +kernel⟩, List.mem_of_getElem? (i := 657) (by decide +kernel), List.mem_of_getElem? (i := 809) (by decide +kernel), List.mem_of_getElem? (i := 810) (by decide +kernel)⟩
theorem lw_p42 : lw_okq (⟨"PlushFlocksModel", "isFlock", "(I)Z"⟩, 19) := ⟨⟨by decide +kernel, by decide +kernel⟩, List.mem_of_getElem? (i := 657) (by decide +kernel), List.mem_of_getElem? (i := 817) (by decide +kernel), List.mem_of_getElem? (i := 818) (by decide +kernel)⟩
theorem lw_p43 : lw_okq (⟨"PlushFlocksModel", "strays", "()I"⟩, 19) := ⟨⟨by decide +kernel, by decide +kernel⟩, List.mem_of_getElem? (i := 657) (by decide +kernel), List.mem_of_getElem? (i := 825) (by decide +kernel), List.mem_of_getElem? (i := 826) (by decide +kernel)⟩
theorem lw_p44 : lw_okq (⟨"PlushFlocksModel", "keeps", "()V"⟩, 19) := ⟨⟨by decide +kernel, by decide +kernel⟩, List.mem_of_getElem? (i := 657) (by decide +kernel), List.mem_of_getElem? (i := 833) (by decide +kernel), List.mem_of_getElem? (i := 834) (by decide +kernel)⟩
theorem lw_p45 : lw_okq (⟨"PlushFlocksModel", "mayDrive", "(II)Z"⟩, 19) := ⟨⟨by decide +kernel, by decide +kernel⟩, List.mem_of_getElem? (i := 657) (by decide +kernel), List.mem_of_getElem? (i := 841) (by decide +kernel), List.mem_of_getElem? (i := 842) (by decide +kernel)⟩
theorem lw_p46 : lw_okq (⟨"PlushFlocksModel", "codeNow", "()I"⟩, 19) := ⟨⟨by decide +kernel, by decide +kernel⟩, List.mem_of_getElem? (i := 657) (by decide +kernel), List.mem_of_getElem? (i := 865) (by decide +kernel), List.mem_of_getElem? (i := 866) (by decide +kernel)⟩
theorem lw_p47 : lw_okq (⟨"PlushFlocksModel", "places", "(I)V"⟩, 19) := ⟨⟨by decide +kernel, by decide +kernel⟩, List.mem_of_getElem? (i := 657) (by decide +kernel), List.mem_of_getElem? (i := 872) (by decide +kernel), List.mem_of_getElem? (i := 873) (by decide +kernel)⟩
def lw_privs_3 : List (MethodName × Nat) := [(⟨"PlushFlocksModel", "isNumber", "(II)Z"⟩, 19), (⟨"PlushFlocksModel", "readsDoor", "()Z"⟩, 19), (⟨"PlushFlocksModel", "begins", "()V"⟩, 19), (⟨"PlushFlocksModel", "isRoom", "(I)Z"⟩, 19), (⟨"PlushFlocksModel", "inRoom", "(I)I"⟩, 19), (⟨"PlushFlocksModel", "bare", "(I)I"⟩, 19), (⟨"PlushFlocksModel", "holds", "()V"⟩, 19), (⟨"PlushFlocksModel", "steps", "()I"⟩, 19), (⟨"PlushFlocksModel", "beyond", "(IZ)I"⟩, 19), (⟨"PlushFlocksModel", "lets", "()V"⟩, 19), (⟨"PlushFlocksModel", "isFlock", "(I)Z"⟩, 19), (⟨"PlushFlocksModel", "strays", "()I"⟩, 19), (⟨"PlushFlocksModel", "keeps", "()V"⟩, 19), (⟨"PlushFlocksModel", "mayDrive", "(II)Z"⟩, 19), (⟨"PlushFlocksModel", "codeNow", "()I"⟩, 19), (⟨"PlushFlocksModel", "places", "(I)V"⟩, 19)]
theorem lw_r3 : ∀ q ∈ lw_privs_3, lw_okq q := List.forall_mem_cons.mpr ⟨lw_p32, List.forall_mem_cons.mpr ⟨lw_p33, List.forall_mem_cons.mpr ⟨lw_p34, List.forall_mem_cons.mpr ⟨lw_p35, List.forall_mem_cons.mpr ⟨lw_p36, List.forall_mem_cons.mpr ⟨lw_p37, List.forall_mem_cons.mpr ⟨lw_p38, List.forall_mem_cons.mpr ⟨lw_p39, List.forall_mem_cons.mpr ⟨lw_p40, List.forall_mem_cons.mpr ⟨lw_p41, List.forall_mem_cons.mpr ⟨lw_p42, List.forall_mem_cons.mpr ⟨lw_p43, List.forall_mem_cons.mpr ⟨lw_p44, List.forall_mem_cons.mpr ⟨lw_p45, List.forall_mem_cons.mpr ⟨lw_p46, List.forall_mem_cons.mpr ⟨lw_p47, fun _ h => absurd h List.not_mem_nil⟩⟩⟩⟩⟩⟩⟩⟩⟩⟩⟩⟩⟩⟩⟩⟩
theorem lw_p48 : lw_okq (⟨"PlushFlocksModel", "firstDrive", "()I"⟩, 19) := ⟨⟨by decide +kernel, by decide +kernel⟩, List.mem_of_getElem? (i := 657) (by decide +kernel), List.mem_of_getElem? (i := 876) (by decide +kernel), List.mem_of_getElem? (i := 877) (by decide +kernel)⟩
theorem lw_p49 : lw_okq (⟨"PlushFlocksModel", "manyWith", "(I)I"⟩, 19) := ⟨⟨by decide +kernel, by decide +kernel⟩, List.mem_of_getElem? (i := 657) (by decide +kernel), List.mem_of_getElem? (i := 904) (by decide +kernel), List.mem_of_getElem? (i := 905) (by decide +kernel)⟩
theorem lw_p50 : lw_okq (⟨"PlushFlocksModel", "isSo", "(I)Z"⟩, 19) := ⟨⟨by decide +kernel, by decide +kernel⟩, List.mem_of_getElem? (i := 657) (by decide +kernel), List.mem_of_getElem? (i := 908) (by decide +kernel), List.mem_of_getElem? (i := 909) (by decide +kernel)⟩
def lw_privs_4 : List (MethodName × Nat) := [(⟨"PlushFlocksModel", "firstDrive", "()I"⟩, 19), (⟨"PlushFlocksModel", "manyWith", "(I)I"⟩, 19), (⟨"PlushFlocksModel", "isSo", "(I)Z"⟩, 19)]
theorem lw_r4 : ∀ q ∈ lw_privs_4, lw_okq q := List.forall_mem_cons.mpr ⟨lw_p48, List.forall_mem_cons.mpr ⟨lw_p49, List.forall_mem_cons.mpr ⟨lw_p50, fun _ h => absurd h List.not_mem_nil⟩⟩⟩
def lw_privs : List (MethodName × Nat) := lw_privs_1 ++ (lw_privs_2 ++ (lw_privs_3 ++ (lw_privs_4)))
def lw_tbl : List Cond := k2_sels lw_privs ++ tables_1
theorem lw_privs_ok : ∀ q ∈ lw_privs, lw_okq q := by
  show ∀ q ∈ lw_privs_1 ++ (lw_privs_2 ++ (lw_privs_3 ++ (lw_privs_4))), lw_okq q
  exact List.forall_mem_append.mpr ⟨lw_r1, List.forall_mem_append.mpr ⟨lw_r2, List.forall_mem_append.mpr ⟨lw_r3, lw_r4⟩⟩⟩
-- ===== end of PART A; then your names; then what follows =====
/-! ===== BEGIN words of one list among another's, by their places ===== -/
theorem goodIn_r {big : List Cond} (ws : List Cond) (ps : List Nat) (hp : ws = ps.filterMap (fun i => big[i]?)) (h : ws.all goodWord = true) : GoodIn big ws := by
  intro w hw
  have h1 := List.all_eq_true.mp h w hw
  rw [hp] at hw
  obtain ⟨i, -, hi⟩ := List.mem_filterMap.mp hw
  have hm : w ∈ big := by first | exact List.mem_of_getElem? hi | exact List.getElem?_mem hi
  exact ⟨hm, good_of_word h1⟩
theorem goodIn_app {big a b : List Cond} (ha : GoodIn big a) (hb : GoodIn big b) : GoodIn big (a ++ b) := fun w h => (List.mem_append.mp h).elim (ha w) (hb w)
theorem goodIn_ca {big a b : List Cond} {c : Cond} (ha : GoodIn big (c :: a)) (hb : GoodIn big b) : GoodIn big (c :: (a ++ b)) := fun w h => (List.mem_cons.mp h).elim (fun e => ha w (List.mem_cons.mpr (Or.inl e))) (fun h => (List.mem_append.mp h).elim (fun h => ha w (List.mem_cons.mpr (Or.inr h))) (hb w))
theorem goodIn_sub {big ws : List Cond} (hm : ∀ w ∈ ws, w ∈ big) (h : ws.all goodWord = true) : GoodIn big ws := fun w hw => ⟨hm w hw, good_of_word (List.all_eq_true.mp h w hw)⟩
/-! ===== END ===== -/

/-! ===== BEGIN printed: names, fields, word lists, decode rows ===== -/
def RX0 : String := "PlushFlocks$Evening"
def TX0 : u_T := fun k => match k with
  | 0 => ("PlushFlocks$Evening", "places", "I", false)
  | 1 => ("PlushFlocks$Evening", "carpets", "J", false)
  | 2 => ("PlushFlocks$Evening", "eaten", "J", false)
  | 3 => ("PlushFlocks$Evening", "lambs", "J", false)
  | 4 => ("PlushFlocks$Evening", "dogs", "I", false)
  | _ => ("PlushFlocks$Evening", "night", "I", false)
def tyX0 : Nat → FieldType := fun k => match k with
  | 0 => .int
  | 1 => .long
  | 2 => .long
  | 3 => .long
  | 4 => .int
  | _ => .int
abbrev wsX00 : List Cond := u_ws RX0 TX0 6
theorem nmX0 : ∀ a, a < 6 → ∀ b, b < 6 → a ≠ b → (TX0 a).2.1 ≠ (TX0 b).2.1 := by decide +kernel
theorem tyX0_ok : ∀ k, k < 6 → parseFieldDescriptor (TX0 k).2.2.1 = some (tyX0 k) := by decide +kernel
abbrev cX0_init : ByteArray := prog_2_method_1_code
def yX0_init : MethodName := ⟨RX0, "<init>", "()V"⟩
abbrev cX0_become : ByteArray := prog_2_method_2_code
def yX0_become : MethodName := ⟨RX0, "become", "(LPlushFlocks$Evening;)V"⟩
abbrev cX0_begin : ByteArray := prog_2_method_3_code
def yX0_begin : MethodName := ⟨RX0, "begin", "(LPlushFlocks$Plan;)V"⟩
abbrev cX0_pass : ByteArray := prog_2_method_4_code
def yX0_pass : MethodName := ⟨RX0, "pass", "(LPlushFlocks$Plan;)I"⟩
abbrev cX0_act : ByteArray := prog_2_method_5_code
def yX0_act : MethodName := ⟨RX0, "act", "(LPlushFlocks$Plan;I)I"⟩
abbrev cX0_graze : ByteArray := prog_2_method_6_code
def yX0_graze : MethodName := ⟨RX0, "graze", "(LPlushFlocks$Plan;II)I"⟩
abbrev cX0_carpeted : ByteArray := prog_2_method_7_code
def yX0_carpeted : MethodName := ⟨RX0, "carpeted", "()I"⟩
abbrev cX0_brighten : ByteArray := prog_2_method_8_code
def yX0_brighten : MethodName := ⟨RX0, "brighten", "(LPlushFlocks$Plan;)V"⟩
def RX1 : String := "PlushFlocks$Grazing"
def TX1 : u_T := fun k => match k with
  | 0 => ("PlushFlocks$Grazing", "sets", "J", false)
  | 1 => ("PlushFlocks$Grazing", "sums", "J", false)
  | 2 => ("PlushFlocks$Grazing", "waysWith", "J", false)
  | 3 => ("PlushFlocks$Grazing", "told", "I", false)
  | 4 => ("PlushFlocks$Grazing", "ways", "I", false)
  | 5 => ("PlushFlocks$Grazing", "inAll", "I", false)
  | _ => ("PlushFlocks$Grazing", "inSome", "I", false)
def tyX1 : Nat → FieldType := fun k => match k with
  | 0 => .long
  | 1 => .long
  | 2 => .long
  | 3 => .int
  | 4 => .int
  | 5 => .int
  | _ => .int
abbrev wsX10 : List Cond := u_ws RX1 TX1 7
theorem nmX1 : ∀ a, a < 7 → ∀ b, b < 7 → a ≠ b → (TX1 a).2.1 ≠ (TX1 b).2.1 := by decide +kernel
theorem tyX1_ok : ∀ k, k < 7 → parseFieldDescriptor (TX1 k).2.2.1 = some (tyX1 k) := by decide +kernel
abbrev cX1_init : ByteArray := prog_3_method_1_code
def yX1_init : MethodName := ⟨RX1, "<init>", "()V"⟩
abbrev cX1_hear : ByteArray := prog_3_method_2_code
def yX1_hear : MethodName := ⟨RX1, "hear", "(II)Z"⟩
abbrev cX1_lose : ByteArray := prog_3_method_3_code
def yX1_lose : MethodName := ⟨RX1, "lose", "()V"⟩
abbrev cX1_weigh : ByteArray := prog_3_method_4_code
def yX1_weigh : MethodName := ⟨RX1, "weigh", "(LPlushFlocks$Plan;)V"⟩
abbrev cX1_agrees : ByteArray := prog_3_method_5_code
def yX1_agrees : MethodName := ⟨RX1, "agrees", "(LPlushFlocks$Plan;I)Z"⟩
abbrev cX1_eatenBy : ByteArray := prog_3_method_6_code
def yX1_eatenBy : MethodName := ⟨RX1, "eatenBy", "(LPlushFlocks$Plan;I)I"⟩
abbrev cX1_add : ByteArray := prog_3_method_7_code
def yX1_add : MethodName := ⟨RX1, "add", "(LPlushFlocks$Plan;I)V"⟩
abbrev cX1_bestAsked : ByteArray := prog_3_method_8_code
def yX1_bestAsked : MethodName := ⟨RX1, "bestAsked", "(I)I"⟩
def RX2 : String := "PlushFlocks$Past"
def TX2 : u_T := fun k => match k with
  | 0 => ("PlushFlocks$Past", "ring", "[LPlushFlocks$Evening;", true)
  | 1 => ("PlushFlocks$Past", "next", "I", false)
  | _ => ("PlushFlocks$Past", "known", "I", false)
def tyX2 : Nat → FieldType := fun k => match k with
  | 0 => .array (.object "PlushFlocks$Evening")
  | 1 => .int
  | _ => .int
abbrev wsX20 : List Cond := u_ws RX2 TX2 3
theorem nmX2 : ∀ a, a < 3 → ∀ b, b < 3 → a ≠ b → (TX2 a).2.1 ≠ (TX2 b).2.1 := by decide +kernel
theorem tyX2_ok : ∀ k, k < 3 → parseFieldDescriptor (TX2 k).2.2.1 = some (tyX2 k) := by decide +kernel
abbrev cX2_init : ByteArray := prog_4_method_1_code
def yX2_init : MethodName := ⟨RX2, "<init>", "()V"⟩
abbrev cX2_remember : ByteArray := prog_4_method_2_code
def yX2_remember : MethodName := ⟨RX2, "remember", "(LPlushFlocks$Evening;)V"⟩
abbrev cX2_giveBack : ByteArray := prog_4_method_3_code
def yX2_giveBack : MethodName := ⟨RX2, "giveBack", "(LPlushFlocks$Evening;)Z"⟩
abbrev cX2_lose : ByteArray := prog_4_method_4_code
def yX2_lose : MethodName := ⟨RX2, "lose", "()V"⟩
def RX3 : String := "PlushFlocks$Plan"
def TX3 : u_T := fun k => match k with
  | 0 => ("PlushFlocks$Plan", "rooms", "I", false)
  | 1 => ("PlushFlocks$Plan", "flocks", "I", false)
  | 2 => ("PlushFlocks$Plan", "lambAt", "I", false)
  | 3 => ("PlushFlocks$Plan", "lambAtTold", "Z", false)
  | 4 => ("PlushFlocks$Plan", "holds", "J", false)
  | 5 => ("PlushFlocks$Plan", "carpets", "J", false)
  | 6 => ("PlushFlocks$Plan", "doors", "J", false)
  | 7 => ("PlushFlocks$Plan", "homes", "I", false)
  | 8 => ("PlushFlocks$Plan", "hungers", "J", false)
  | _ => ("PlushFlocks$Plan", "stuffs", "J", false)
def tyX3 : Nat → FieldType := fun k => match k with
  | 0 => .int
  | 1 => .int
  | 2 => .int
  | 3 => .boolean
  | 4 => .long
  | 5 => .long
  | 6 => .long
  | 7 => .int
  | 8 => .long
  | _ => .long
abbrev wsX30 : List Cond := u_ws RX3 TX3 10
theorem nmX3 : ∀ a, a < 10 → ∀ b, b < 10 → a ≠ b → (TX3 a).2.1 ≠ (TX3 b).2.1 := by decide +kernel
theorem tyX3_ok : ∀ k, k < 10 → parseFieldDescriptor (TX3 k).2.2.1 = some (tyX3 k) := by decide +kernel
abbrev cX3_init : ByteArray := prog_5_method_1_code
def yX3_init : MethodName := ⟨RX3, "<init>", "()V"⟩
abbrev cX3_hasRoom : ByteArray := prog_5_method_2_code
def yX3_hasRoom : MethodName := ⟨RX3, "hasRoom", "(I)Z"⟩
abbrev cX3_hasFlock : ByteArray := prog_5_method_3_code
def yX3_hasFlock : MethodName := ⟨RX3, "hasFlock", "(I)Z"⟩
abbrev cX3_addRoom : ByteArray := prog_5_method_4_code
def yX3_addRoom : MethodName := ⟨RX3, "addRoom", "(II)V"⟩
abbrev cX3_addDoor : ByteArray := prog_5_method_5_code
def yX3_addDoor : MethodName := ⟨RX3, "addDoor", "(II)V"⟩
abbrev cX3_addFlock : ByteArray := prog_5_method_6_code
def yX3_addFlock : MethodName := ⟨RX3, "addFlock", "(III)V"⟩
abbrev cX3_tellLambAt : ByteArray := prog_5_method_7_code
def yX3_tellLambAt : MethodName := ⟨RX3, "tellLambAt", "(I)V"⟩
abbrev cX3_flocksIn : ByteArray := prog_5_method_8_code
def yX3_flocksIn : MethodName := ⟨RX3, "flocksIn", "(II)I"⟩
abbrev cX3_strays : ByteArray := prog_5_method_9_code
def yX3_strays : MethodName := ⟨RX3, "strays", "(I)I"⟩
abbrev cX3_openRooms : ByteArray := prog_5_method_10_code
def yX3_openRooms : MethodName := ⟨RX3, "openRooms", "(II)I"⟩
abbrev cX3_roomsTaken : ByteArray := prog_5_method_11_code
def yX3_roomsTaken : MethodName := ⟨RX3, "roomsTaken", "(II)I"⟩
abbrev cX3_mayJoin : ByteArray := prog_5_method_12_code
def yX3_mayJoin : MethodName := ⟨RX3, "mayJoin", "(III)Z"⟩
def RX4 : String := "PlushFlocks$Reader"
def TX4 : u_T := fun k => match k with
  | 0 => ("PlushFlocks$Reader", "text", "[C", true)
  | 1 => ("PlushFlocks$Reader", "length", "I", true)
  | 2 => ("PlushFlocks$Reader", "item", "C", false)
  | 3 => ("PlushFlocks$Reader", "numbers", "I", false)
  | 4 => ("PlushFlocks$Reader", "one", "I", false)
  | 5 => ("PlushFlocks$Reader", "two", "I", false)
  | 6 => ("PlushFlocks$Reader", "three", "I", false)
  | 7 => ("PlushFlocks$Reader", "items", "I", false)
  | _ => ("PlushFlocks$Reader", "plan", "LPlushFlocks$Plan;", true)
def tyX4 : Nat → FieldType := fun k => match k with
  | 0 => .array .char
  | 1 => .int
  | 2 => .char
  | 3 => .int
  | 4 => .int
  | 5 => .int
  | 6 => .int
  | 7 => .int
  | _ => .object "PlushFlocks$Plan"
abbrev wsX40 : List Cond := u_ws RX4 TX4 9
theorem nmX4 : ∀ a, a < 9 → ∀ b, b < 9 → a ≠ b → (TX4 a).2.1 ≠ (TX4 b).2.1 := by decide +kernel
theorem tyX4_ok : ∀ k, k < 9 → parseFieldDescriptor (TX4 k).2.2.1 = some (tyX4 k) := by decide +kernel
abbrev cX4_init : ByteArray := prog_6_method_1_code
def yX4_init : MethodName := ⟨RX4, "<init>", "([CI)V"⟩
abbrev cX4_readAll : ByteArray := prog_6_method_2_code
def yX4_readAll : MethodName := ⟨RX4, "readAll", "()I"⟩
abbrev cX4_letterAt : ByteArray := prog_6_method_3_code
def yX4_letterAt : MethodName := ⟨RX4, "letterAt", "(I)C"⟩
abbrev cX4_isDigit : ByteArray := prog_6_method_4_code
def yX4_isDigit : MethodName := ⟨RX4, "isDigit", "(I)Z"⟩
abbrev cX4_isTokenStart : ByteArray := prog_6_method_5_code
def yX4_isTokenStart : MethodName := ⟨RX4, "isTokenStart", "(I)Z"⟩
abbrev cX4_takes : ByteArray := prog_6_method_6_code
def yX4_takes : MethodName := ⟨RX4, "takes", "(I)Z"⟩
abbrev cX4_numberAt : ByteArray := prog_6_method_7_code
def yX4_numberAt : MethodName := ⟨RX4, "numberAt", "(I)I"⟩
abbrev cX4_takesLetter : ByteArray := prog_6_method_8_code
def yX4_takesLetter : MethodName := ⟨RX4, "takesLetter", "(C)Z"⟩
abbrev cX4_takesNumber : ByteArray := prog_6_method_9_code
def yX4_takesNumber : MethodName := ⟨RX4, "takesNumber", "(I)Z"⟩
abbrev cX4_mayBe : ByteArray := prog_6_method_10_code
def yX4_mayBe : MethodName := ⟨RX4, "mayBe", "(I)Z"⟩
abbrev cX4_mayTellRoom : ByteArray := prog_6_method_11_code
def yX4_mayTellRoom : MethodName := ⟨RX4, "mayTellRoom", "(I)Z"⟩
abbrev cX4_mayTellFlock : ByteArray := prog_6_method_12_code
def yX4_mayTellFlock : MethodName := ⟨RX4, "mayTellFlock", "(I)Z"⟩
abbrev cX4_takesEnd : ByteArray := prog_6_method_13_code
def yX4_takesEnd : MethodName := ⟨RX4, "takesEnd", "()Z"⟩
abbrev cX4_numbersOf : ByteArray := prog_6_method_14_code
def yX4_numbersOf : MethodName := ⟨RX4, "numbersOf", "(C)I"⟩
def RX5 : String := "PlushFlocks$WayBack"
def TX5 : u_T := fun k => match k with
  | 0 => ("PlushFlocks$WayBack", "queue", "[I", true)
  | 1 => ("PlushFlocks$WayBack", "seen", "[J", true)
  | 2 => ("PlushFlocks$WayBack", "end", "I", false)
  | 3 => ("PlushFlocks$WayBack", "fewest", "I", false)
  | _ => ("PlushFlocks$WayBack", "first", "I", false)
def tyX5 : Nat → FieldType := fun k => match k with
  | 0 => .array .int
  | 1 => .array .long
  | 2 => .int
  | 3 => .int
  | _ => .int
abbrev wsX50 : List Cond := u_ws RX5 TX5 5
theorem nmX5 : ∀ a, a < 5 → ∀ b, b < 5 → a ≠ b → (TX5 a).2.1 ≠ (TX5 b).2.1 := by decide +kernel
theorem tyX5_ok : ∀ k, k < 5 → parseFieldDescriptor (TX5 k).2.2.1 = some (tyX5 k) := by decide +kernel
abbrev cX5_init : ByteArray := prog_7_method_1_code
def yX5_init : MethodName := ⟨RX5, "<init>", "()V"⟩
abbrev cX5_search : ByteArray := prog_7_method_2_code
def yX5_search : MethodName := ⟨RX5, "search", "(LPlushFlocks$Plan;LPlushFlocks$Evening;)V"⟩
abbrev cX5_spread : ByteArray := prog_7_method_3_code
def yX5_spread : MethodName := ⟨RX5, "spread", "(LPlushFlocks$Plan;II)V"⟩
abbrev cX5_arrive : ByteArray := prog_7_method_4_code
def yX5_arrive : MethodName := ⟨RX5, "arrive", "(III)V"⟩
abbrev cX5_reach : ByteArray := prog_7_method_5_code
def yX5_reach : MethodName := ⟨RX5, "reach", "(II)Z"⟩
def RX6 : String := "PlushFlocks"
def TX6 : u_T := fun k => match k with
  | 0 => ("PlushFlocks", "text", "[C", true)
  | 1 => ("PlushFlocks", "letters", "I", false)
  | 2 => ("PlushFlocks", "plan", "LPlushFlocks$Plan;", false)
  | 3 => ("PlushFlocks", "evening", "LPlushFlocks$Evening;", true)
  | 4 => ("PlushFlocks", "trial", "LPlushFlocks$Evening;", true)
  | 5 => ("PlushFlocks", "past", "LPlushFlocks$Past;", true)
  | 6 => ("PlushFlocks", "images", "[LPlushFlocks$Evening;", true)
  | 7 => ("PlushFlocks", "imagesKept", "I", false)
  | 8 => ("PlushFlocks", "grazing", "LPlushFlocks$Grazing;", true)
  | 9 => ("PlushFlocks", "wayBack", "LPlushFlocks$WayBack;", true)
  | _ => ("PlushFlocks", "traced", "J", false)
def tyX6 : Nat → FieldType := fun k => match k with
  | 0 => .array .char
  | 1 => .int
  | 2 => .object "PlushFlocks$Plan"
  | 3 => .object "PlushFlocks$Evening"
  | 4 => .object "PlushFlocks$Evening"
  | 5 => .object "PlushFlocks$Past"
  | 6 => .array (.object "PlushFlocks$Evening")
  | 7 => .int
  | 8 => .object "PlushFlocks$Grazing"
  | 9 => .object "PlushFlocks$WayBack"
  | _ => .long
abbrev wsX60 : List Cond := u_ws RX6 TX6 11
theorem nmX6 : ∀ a, a < 11 → ∀ b, b < 11 → a ≠ b → (TX6 a).2.1 ≠ (TX6 b).2.1 := by decide +kernel
theorem tyX6_ok : ∀ k, k < 11 → parseFieldDescriptor (TX6 k).2.2.1 = some (tyX6 k) := by decide +kernel
abbrev cX6_init : ByteArray := prog_1_method_1_code
def yX6_init : MethodName := ⟨RX6, "<init>", "()V"⟩
abbrev cX6_type : ByteArray := prog_1_method_2_code
def yX6_type : MethodName := ⟨RX6, "type", "(I)I"⟩
abbrev cX6_clear : ByteArray := prog_1_method_3_code
def yX6_clear : MethodName := ⟨RX6, "clear", "()I"⟩
abbrev cX6_house : ByteArray := prog_1_method_4_code
def yX6_house : MethodName := ⟨RX6, "house", "()I"⟩
abbrev cX6_room : ByteArray := prog_1_method_5_code
def yX6_room : MethodName := ⟨RX6, "room", "(II)I"⟩
abbrev cX6_flock : ByteArray := prog_1_method_6_code
def yX6_flock : MethodName := ⟨RX6, "flock", "(II)I"⟩
abbrev cX6_now : ByteArray := prog_1_method_7_code
def yX6_now : MethodName := ⟨RX6, "now", "(I)I"⟩
abbrev cX6_stepsTillBare : ByteArray := prog_1_method_8_code
def yX6_stepsTillBare : MethodName := ⟨RX6, "stepsTillBare", "(I)I"⟩
abbrev cX6_step : ByteArray := prog_1_method_9_code
def yX6_step : MethodName := ⟨RX6, "step", "()I"⟩
abbrev cX6_drives : ByteArray := prog_1_method_10_code
def yX6_drives : MethodName := ⟨RX6, "drives", "(II)I"⟩
abbrev cX6_puts : ByteArray := prog_1_method_11_code
def yX6_puts : MethodName := ⟨RX6, "puts", "(I)I"⟩
abbrev cX6_calls : ByteArray := prog_1_method_12_code
def yX6_calls : MethodName := ⟨RX6, "calls", "(I)I"⟩
abbrev cX6_dawn : ByteArray := prog_1_method_13_code
def yX6_dawn : MethodName := ⟨RX6, "dawn", "()I"⟩
abbrev cX6_undo : ByteArray := prog_1_method_14_code
def yX6_undo : MethodName := ⟨RX6, "undo", "()I"⟩
abbrev cX6_back : ByteArray := prog_1_method_15_code
def yX6_back : MethodName := ⟨RX6, "back", "(I)I"⟩
abbrev cX6_homing : ByteArray := prog_1_method_16_code
def yX6_homing : MethodName := ⟨RX6, "homing", "()I"⟩
abbrev cX6_apart : ByteArray := prog_1_method_17_code
def yX6_apart : MethodName := ⟨RX6, "apart", "(I)I"⟩
abbrev cX6_odds : ByteArray := prog_1_method_18_code
def yX6_odds : MethodName := ⟨RX6, "odds", "(III)I"⟩
abbrev cX6_sendsHome : ByteArray := prog_1_method_19_code
def yX6_sendsHome : MethodName := ⟨RX6, "sendsHome", "(I)Z"⟩
abbrev cX6_cheapest : ByteArray := prog_1_method_20_code
def yX6_cheapest : MethodName := ⟨RX6, "cheapest", "(LPlushFlocks$Plan;III)I"⟩
abbrev cX6_tells : ByteArray := prog_1_method_21_code
def yX6_tells : MethodName := ⟨RX6, "tells", "(II)I"⟩
abbrev cX6_forget : ByteArray := prog_1_method_22_code
def yX6_forget : MethodName := ⟨RX6, "forget", "()I"⟩
abbrev cX6_can : ByteArray := prog_1_method_23_code
def yX6_can : MethodName := ⟨RX6, "can", "(I)I"⟩
abbrev cX6_ask : ByteArray := prog_1_method_24_code
def yX6_ask : MethodName := ⟨RX6, "ask", "()I"⟩
abbrev cX6_rate : ByteArray := prog_1_method_25_code
def yX6_rate : MethodName := ⟨RX6, "rate", "(II)I"⟩
abbrev cX6_keep : ByteArray := prog_1_method_26_code
def yX6_keep : MethodName := ⟨RX6, "keep", "(I)I"⟩
abbrev cX6_again : ByteArray := prog_1_method_27_code
def yX6_again : MethodName := ⟨RX6, "again", "(I)I"⟩
abbrev cX6_count : ByteArray := prog_1_method_28_code
def yX6_count : MethodName := ⟨RX6, "count", "(I)I"⟩
abbrev cX6_trace : ByteArray := prog_1_method_29_code
def yX6_trace : MethodName := ⟨RX6, "trace", "()J"⟩
abbrev cX6_pile : ByteArray := prog_1_method_30_code
def yX6_pile : MethodName := ⟨RX6, "pile", "(I)I"⟩
abbrev cX6_cord : ByteArray := prog_1_method_31_code
def yX6_cord : MethodName := ⟨RX6, "cord", "(I)I"⟩
abbrev cX6_nap : ByteArray := prog_1_method_32_code
def yX6_nap : MethodName := ⟨RX6, "nap", "(I)I"⟩
abbrev cX6_damask : ByteArray := prog_1_method_33_code
def yX6_damask : MethodName := ⟨RX6, "damask", "(I)I"⟩
abbrev cX6_velvet : ByteArray := prog_1_method_34_code
def yX6_velvet : MethodName := ⟨RX6, "velvet", "(I)I"⟩
abbrev cX6_fringe : ByteArray := prog_1_method_35_code
def yX6_fringe : MethodName := ⟨RX6, "fringe", "(I)I"⟩
abbrev cX6_lane : ByteArray := prog_1_method_36_code
def yX6_lane : MethodName := ⟨RX6, "lane", "(JI)I"⟩
abbrev cX6_withLane : ByteArray := prog_1_method_37_code
def yX6_withLane : MethodName := ⟨RX6, "withLane", "(JII)J"⟩
abbrev cX6_sum : ByteArray := prog_1_method_38_code
def yX6_sum : MethodName := ⟨RX6, "sum", "(J)I"⟩
abbrev cX6_spot : ByteArray := prog_1_method_39_code
def yX6_spot : MethodName := ⟨RX6, "spot", "(II)I"⟩
abbrev cX6_withSpot : ByteArray := prog_1_method_40_code
def yX6_withSpot : MethodName := ⟨RX6, "withSpot", "(III)I"⟩
abbrev cX6_has : ByteArray := prog_1_method_41_code
def yX6_has : MethodName := ⟨RX6, "has", "(II)Z"⟩
abbrev cX6_lowest : ByteArray := prog_1_method_42_code
def yX6_lowest : MethodName := ⟨RX6, "lowest", "(I)I"⟩
abbrev cX6_slot : ByteArray := prog_1_method_43_code
def yX6_slot : MethodName := ⟨RX6, "slot", "([LPlushFlocks$Evening;I)LPlushFlocks$Evening;"⟩
abbrev cX6_power : ByteArray := prog_1_method_44_code
def yX6_power : MethodName := ⟨RX6, "power", "(II)I"⟩
abbrev cX6_commonDivisor : ByteArray := prog_1_method_45_code
def yX6_commonDivisor : MethodName := ⟨RX6, "commonDivisor", "(II)I"⟩
def RX7 : String := "PlushFlocksModel"
def TX7 : u_T := fun k => match k with
  | 0 => ("PlushFlocksModel", "trace", "J", false)
  | 1 => ("PlushFlocksModel", "text", "[I", true)
  | 2 => ("PlushFlocksModel", "typed", "I", false)
  | 3 => ("PlushFlocksModel", "told", "[I", true)
  | 4 => ("PlushFlocksModel", "draft", "[I", true)
  | 5 => ("PlushFlocksModel", "s", "[I", true)
  | 6 => ("PlushFlocksModel", "past", "[I", true)
  | 7 => ("PlushFlocksModel", "known", "I", false)
  | 8 => ("PlushFlocksModel", "images", "[I", true)
  | 9 => ("PlushFlocksModel", "kept", "[Z", true)
  | 10 => ("PlushFlocksModel", "notes", "[I", true)
  | 11 => ("PlushFlocksModel", "noted", "I", false)
  | 12 => ("PlushFlocksModel", "at", "I", false)
  | 13 => ("PlushFlocksModel", "sort", "I", false)
  | 14 => ("PlushFlocksModel", "start", "I", false)
  | 15 => ("PlushFlocksModel", "value", "I", false)
  | 16 => ("PlushFlocksModel", "aside", "[I", true)
  | 17 => ("PlushFlocksModel", "near", "[J", true)
  | _ => ("PlushFlocksModel", "nearer", "[J", true)
def tyX7 : Nat → FieldType := fun k => match k with
  | 0 => .long
  | 1 => .array .int
  | 2 => .int
  | 3 => .array .int
  | 4 => .array .int
  | 5 => .array .int
  | 6 => .array .int
  | 7 => .int
  | 8 => .array .int
  | 9 => .array .boolean
  | 10 => .array .int
  | 11 => .int
  | 12 => .int
  | 13 => .int
  | 14 => .int
  | 15 => .int
  | 16 => .array .int
  | 17 => .array .long
  | _ => .array .long
abbrev wsX70 : List Cond := u_ws RX7 TX7 19
theorem nmX7 : ∀ a, a < 19 → ∀ b, b < 19 → a ≠ b → (TX7 a).2.1 ≠ (TX7 b).2.1 := by decide +kernel
theorem tyX7_ok : ∀ k, k < 19 → parseFieldDescriptor (TX7 k).2.2.1 = some (tyX7 k) := by decide +kernel
abbrev cX7_init : ByteArray := prog_9_method_1_code
def yX7_init : MethodName := ⟨RX7, "<init>", "()V"⟩
abbrev cX7_in : ByteArray := prog_9_method_3_code
def yX7_in : MethodName := ⟨RX7, "in", "(III)Z"⟩
abbrev cX7_has : ByteArray := prog_9_method_4_code
def yX7_has : MethodName := ⟨RX7, "has", "(II)Z"⟩
abbrev cX7_ones : ByteArray := prog_9_method_5_code
def yX7_ones : MethodName := ⟨RX7, "ones", "(I)I"⟩
abbrev cX7_isRoom : ByteArray := prog_9_method_6_code
def yX7_isRoom : MethodName := ⟨RX7, "isRoom", "(I)Z"⟩
abbrev cX7_isFlock : ByteArray := prog_9_method_7_code
def yX7_isFlock : MethodName := ⟨RX7, "isFlock", "(I)Z"⟩
abbrev cX7_type : ByteArray := prog_9_method_8_code
def yX7_type : MethodName := ⟨RX7, "type", "(I)I"⟩
abbrev cX7_clear : ByteArray := prog_9_method_9_code
def yX7_clear : MethodName := ⟨RX7, "clear", "()I"⟩
abbrev cX7_letterAt : ByteArray := prog_9_method_10_code
def yX7_letterAt : MethodName := ⟨RX7, "letterAt", "(I)I"⟩
abbrev cX7_isDigit : ByteArray := prog_9_method_11_code
def yX7_isDigit : MethodName := ⟨RX7, "isDigit", "(I)Z"⟩
abbrev cX7_isWord : ByteArray := prog_9_method_12_code
def yX7_isWord : MethodName := ⟨RX7, "isWord", "(I)Z"⟩
abbrev cX7_token : ByteArray := prog_9_method_13_code
def yX7_token : MethodName := ⟨RX7, "token", "()V"⟩
abbrev cX7_isNumber : ByteArray := prog_9_method_14_code
def yX7_isNumber : MethodName := ⟨RX7, "isNumber", "(II)Z"⟩
abbrev cX7_number : ByteArray := prog_9_method_15_code
def yX7_number : MethodName := ⟨RX7, "number", "(III)Z"⟩
abbrev cX7_readsDoor : ByteArray := prog_9_method_16_code
def yX7_readsDoor : MethodName := ⟨RX7, "readsDoor", "()Z"⟩
abbrev cX7_readsItem : ByteArray := prog_9_method_17_code
def yX7_readsItem : MethodName := ⟨RX7, "readsItem", "()Z"⟩
abbrev cX7_reads : ByteArray := prog_9_method_18_code
def yX7_reads : MethodName := ⟨RX7, "reads", "()Z"⟩
abbrev cX7_begins : ByteArray := prog_9_method_19_code
def yX7_begins : MethodName := ⟨RX7, "begins", "()V"⟩
abbrev cX7_house : ByteArray := prog_9_method_20_code
def yX7_house : MethodName := ⟨RX7, "house", "()I"⟩
abbrev cX7_inRoom : ByteArray := prog_9_method_21_code
def yX7_inRoom : MethodName := ⟨RX7, "inRoom", "(I)I"⟩
abbrev cX7_beyond : ByteArray := prog_9_method_22_code
def yX7_beyond : MethodName := ⟨RX7, "beyond", "(IZ)I"⟩
abbrev cX7_steps : ByteArray := prog_9_method_23_code
def yX7_steps : MethodName := ⟨RX7, "steps", "()I"⟩
abbrev cX7_holds : ByteArray := prog_9_method_24_code
def yX7_holds : MethodName := ⟨RX7, "holds", "()V"⟩
abbrev cX7_lets : ByteArray := prog_9_method_25_code
def yX7_lets : MethodName := ⟨RX7, "lets", "()V"⟩
abbrev cX7_bare : ByteArray := prog_9_method_26_code
def yX7_bare : MethodName := ⟨RX7, "bare", "(I)I"⟩
abbrev cX7_room : ByteArray := prog_9_method_27_code
def yX7_room : MethodName := ⟨RX7, "room", "(II)I"⟩
abbrev cX7_flock : ByteArray := prog_9_method_28_code
def yX7_flock : MethodName := ⟨RX7, "flock", "(II)I"⟩
abbrev cX7_strays : ByteArray := prog_9_method_29_code
def yX7_strays : MethodName := ⟨RX7, "strays", "()I"⟩
abbrev cX7_now : ByteArray := prog_9_method_30_code
def yX7_now : MethodName := ⟨RX7, "now", "(I)I"⟩
abbrev cX7_keeps : ByteArray := prog_9_method_31_code
def yX7_keeps : MethodName := ⟨RX7, "keeps", "()V"⟩
abbrev cX7_step : ByteArray := prog_9_method_32_code
def yX7_step : MethodName := ⟨RX7, "step", "()I"⟩
abbrev cX7_mayDrive : ByteArray := prog_9_method_33_code
def yX7_mayDrive : MethodName := ⟨RX7, "mayDrive", "(II)Z"⟩
abbrev cX7_drives : ByteArray := prog_9_method_34_code
def yX7_drives : MethodName := ⟨RX7, "drives", "(II)I"⟩
abbrev cX7_puts : ByteArray := prog_9_method_35_code
def yX7_puts : MethodName := ⟨RX7, "puts", "(I)I"⟩
abbrev cX7_calls : ByteArray := prog_9_method_36_code
def yX7_calls : MethodName := ⟨RX7, "calls", "(I)I"⟩
abbrev cX7_dawn : ByteArray := prog_9_method_37_code
def yX7_dawn : MethodName := ⟨RX7, "dawn", "()I"⟩
abbrev cX7_undo : ByteArray := prog_9_method_38_code
def yX7_undo : MethodName := ⟨RX7, "undo", "()I"⟩
abbrev cX7_codeNow : ByteArray := prog_9_method_39_code
def yX7_codeNow : MethodName := ⟨RX7, "codeNow", "()I"⟩
abbrev cX7_places : ByteArray := prog_9_method_40_code
def yX7_places : MethodName := ⟨RX7, "places", "(I)V"⟩
abbrev cX7_isIn : ByteArray := prog_9_method_41_code
def yX7_isIn : MethodName := ⟨RX7, "isIn", "([JI)Z"⟩
abbrev cX7_firstDrive : ByteArray := prog_9_method_42_code
def yX7_firstDrive : MethodName := ⟨RX7, "firstDrive", "()I"⟩
abbrev cX7_back : ByteArray := prog_9_method_43_code
def yX7_back : MethodName := ⟨RX7, "back", "(I)I"⟩
abbrev cX7_homing : ByteArray := prog_9_method_44_code
def yX7_homing : MethodName := ⟨RX7, "homing", "()I"⟩
abbrev cX7_apart : ByteArray := prog_9_method_45_code
def yX7_apart : MethodName := ⟨RX7, "apart", "(I)I"⟩
abbrev cX7_odds : ByteArray := prog_9_method_46_code
def yX7_odds : MethodName := ⟨RX7, "odds", "(III)I"⟩
abbrev cX7_tells : ByteArray := prog_9_method_47_code
def yX7_tells : MethodName := ⟨RX7, "tells", "(II)I"⟩
abbrev cX7_forget : ByteArray := prog_9_method_48_code
def yX7_forget : MethodName := ⟨RX7, "forget", "()I"⟩
abbrev cX7_isSo : ByteArray := prog_9_method_49_code
def yX7_isSo : MethodName := ⟨RX7, "isSo", "(I)Z"⟩
abbrev cX7_manyWith : ByteArray := prog_9_method_50_code
def yX7_manyWith : MethodName := ⟨RX7, "manyWith", "(I)I"⟩
abbrev cX7_can : ByteArray := prog_9_method_51_code
def yX7_can : MethodName := ⟨RX7, "can", "(I)I"⟩
abbrev cX7_ask : ByteArray := prog_9_method_52_code
def yX7_ask : MethodName := ⟨RX7, "ask", "()I"⟩
abbrev cX7_rate : ByteArray := prog_9_method_53_code
def yX7_rate : MethodName := ⟨RX7, "rate", "(II)I"⟩
abbrev cX7_keep : ByteArray := prog_9_method_54_code
def yX7_keep : MethodName := ⟨RX7, "keep", "(I)I"⟩
abbrev cX7_again : ByteArray := prog_9_method_55_code
def yX7_again : MethodName := ⟨RX7, "again", "(I)I"⟩
abbrev cX7_count : ByteArray := prog_9_method_56_code
def yX7_count : MethodName := ⟨RX7, "count", "(I)I"⟩
abbrev cX7_trace : ByteArray := prog_9_method_57_code
def yX7_trace : MethodName := ⟨RX7, "trace", "()J"⟩
def RJ6 : String := "java/lang/Integer"
def TJ6 : u_T := fun k => match k with
  | _ => ("", "", "", false)
def tyJ6 : Nat → FieldType := fun k => match k with
  | _ => .int
abbrev wsJ60 : List Cond := u_ws RJ6 TJ6 0
theorem nmJ6 : ∀ a, a < 0 → ∀ b, b < 0 → a ≠ b → (TJ6 a).2.1 ≠ (TJ6 b).2.1 := by decide +kernel
theorem tyJ6_ok : ∀ k, k < 0 → parseFieldDescriptor (TJ6 k).2.2.1 = some (tyJ6 k) := by decide +kernel
abbrev cJ6_bitCount_0f7a4 : ByteArray := prog_10_method_49_code
def yJ6_bitCount_0f7a4 : MethodName := ⟨RJ6, "bitCount", "(I)I"⟩
def RJ9 : String := "java/lang/Math"
def TJ9 : u_T := fun k => match k with
  | _ => ("", "", "", false)
def tyJ9 : Nat → FieldType := fun k => match k with
  | _ => .int
abbrev wsJ90 : List Cond := u_ws RJ9 TJ9 0
theorem nmJ9 : ∀ a, a < 0 → ∀ b, b < 0 → a ≠ b → (TJ9 a).2.1 ≠ (TJ9 b).2.1 := by decide +kernel
theorem tyJ9_ok : ∀ k, k < 0 → parseFieldDescriptor (TJ9 k).2.2.1 = some (tyJ9 k) := by decide +kernel
abbrev cJ9_max_7cf53 : ByteArray := prog_11_method_65_code
def yJ9_max_7cf53 : MethodName := ⟨RJ9, "max", "(II)I"⟩
abbrev cJ9_min_7cf53 : ByteArray := prog_11_method_69_code
def yJ9_min_7cf53 : MethodName := ⟨RJ9, "min", "(II)I"⟩
def RJ7 : String := "java/util/Arrays"
def TJ7 : u_T := fun k => match k with
  | _ => ("", "", "", false)
def tyJ7 : Nat → FieldType := fun k => match k with
  | _ => .int
abbrev wsJ70 : List Cond := u_ws RJ7 TJ7 0
theorem nmJ7 : ∀ a, a < 0 → ∀ b, b < 0 → a ≠ b → (TJ7 a).2.1 ≠ (TJ7 b).2.1 := by decide +kernel
theorem tyJ7_ok : ∀ k, k < 0 → parseFieldDescriptor (TJ7 k).2.2.1 = some (tyJ7 k) := by decide +kernel
abbrev cJ7_fill_d0a16 : ByteArray := prog_12_method_101_code
def yJ7_fill_d0a16 : MethodName := ⟨RJ7, "fill", "([JJ)V"⟩
def RL : String := "PlushFlocksLaw"
abbrev cL_law : ByteArray := code
def yL_law : MethodName := ⟨RL, "law", "([I)Z"⟩
theorem inJ6 : ∀ w ∈ wsJ60, w ∈ lw_tbl := by decide +kernel
theorem inJ9 : ∀ w ∈ wsJ90, w ∈ lw_tbl := by decide +kernel
theorem inJ7 : ∀ w ∈ wsJ70, w ∈ lw_tbl := by decide +kernel
abbrev vwCl : List vw_C := [(RX0, TX0, 6), (RX1, TX1, 7), (RX2, TX2, 3), (RX3, TX3, 10), (RX4, TX4, 9), (RX5, TX5, 5), (RX6, TX6, 11), (RX7, TX7, 19)]
