section
-- ===== PART A: goes FIRST, ahead of the names: the tables' words, and 'selects' of the private methods out of them =====
/-- a private method of a class that the tables say can be made, by its rows of tables_1 -/
def lw_okq (q : MethodName × Nat) : Prop := (q.1.cls ≠ "java/lang/invoke/MethodHandle" ∧ q.1.cls ≠ "java/lang/invoke/VarHandle") ∧ Cond.instantiable q.1.cls q.2 ∈ tables_1 ∧ Cond.privateMethod q.1 ∈ tables_1 ∧ Cond.instanceMethod q.1 ∈ tables_1
theorem lw_p0 : lw_okq (⟨"PlushFlocks$Reader", "isTokenStart", "(I)Z"⟩, 9) := ⟨⟨by decide +kernel, by decide +kernel⟩, List.mem_of_getElem? (i := 240) (by decide +kernel), List.mem_of_getElem? (i := 285) (by decide +kernel), List.mem_of_getElem? (i := 286) (by decide +kernel)⟩
theorem lw_p1 : lw_okq (⟨"PlushFlocks$Reader", "letterAt", "(I)C"⟩, 9) := ⟨⟨by decide +kernel, by decide +kernel⟩, List.mem_of_getElem? (i := 240) (by decide +kernel), List.mem_of_getElem? (i := 289) (by decide +kernel), List.mem_of_getElem? (i := 290) (by decide +kernel)⟩
theorem lw_p2 : lw_okq (⟨"PlushFlocks$Reader", "isDigit", "(I)Z"⟩, 9) := ⟨⟨by decide +kernel, by decide +kernel⟩, List.mem_of_getElem? (i := 240) (by decide +kernel), List.mem_of_getElem? (i := 293) (by decide +kernel), List.mem_of_getElem? (i := 294) (by decide +kernel)⟩
theorem lw_p3 : lw_okq (⟨"PlushFlocks$Reader", "takes", "(I)Z"⟩, 9) := ⟨⟨by decide +kernel, by decide +kernel⟩, List.mem_of_getElem? (i := 240) (by decide +kernel), List.mem_of_getElem? (i := 297) (by decide +kernel), List.mem_of_getElem? (i := 298) (by decide +kernel)⟩
theorem lw_p4 : lw_okq (⟨"PlushFlocks$Reader", "numberAt", "(I)I"⟩, 9) := ⟨⟨by decide +kernel, by decide +kernel⟩, List.mem_of_getElem? (i := 240) (by decide +kernel), List.mem_of_getElem? (i := 301) (by decide +kernel), List.mem_of_getElem? (i := 302) (by decide +kernel)⟩
theorem lw_p5 : lw_okq (⟨"PlushFlocks$Reader", "takesNumber", "(I)Z"⟩, 9) := ⟨⟨by decide +kernel, by decide +kernel⟩, List.mem_of_getElem? (i := 240) (by decide +kernel), List.mem_of_getElem? (i := 305) (by decide +kernel), List.mem_of_getElem? (i := 306) (by decide +kernel)⟩
theorem lw_p6 : lw_okq (⟨"PlushFlocks$Reader", "mayBe", "(I)Z"⟩, 9) := ⟨⟨by decide +kernel, by decide +kernel⟩, List.mem_of_getElem? (i := 240) (by decide +kernel), List.mem_of_getElem? (i := 309) (by decide +kernel), List.mem_of_getElem? (i := 310) (by decide +kernel)⟩
theorem lw_p7 : lw_okq (⟨"PlushFlocks$Reader", "mayTellRoom", "(I)Z"⟩, 9) := ⟨⟨by decide +kernel, by decide +kernel⟩, List.mem_of_getElem? (i := 240) (by decide +kernel), List.mem_of_getElem? (i := 313) (by decide +kernel), List.mem_of_getElem? (i := 314) (by decide +kernel)⟩
theorem lw_p8 : lw_okq (⟨"PlushFlocks$Reader", "mayTellFlock", "(I)Z"⟩, 9) := ⟨⟨by decide +kernel, by decide +kernel⟩, List.mem_of_getElem? (i := 240) (by decide +kernel), List.mem_of_getElem? (i := 321) (by decide +kernel), List.mem_of_getElem? (i := 322) (by decide +kernel)⟩
theorem lw_p9 : lw_okq (⟨"PlushFlocks$Reader", "takesEnd", "()Z"⟩, 9) := ⟨⟨by decide +kernel, by decide +kernel⟩, List.mem_of_getElem? (i := 240) (by decide +kernel), List.mem_of_getElem? (i := 325) (by decide +kernel), List.mem_of_getElem? (i := 326) (by decide +kernel)⟩
theorem lw_p10 : lw_okq (⟨"PlushFlocks$Reader", "takesLetter", "(C)Z"⟩, 9) := ⟨⟨by decide +kernel, by decide +kernel⟩, List.mem_of_getElem? (i := 240) (by decide +kernel), List.mem_of_getElem? (i := 359) (by decide +kernel), List.mem_of_getElem? (i := 360) (by decide +kernel)⟩
theorem lw_p11 : lw_okq (⟨"PlushFlocks", "stepsTillBare", "(I)I"⟩, 11) := ⟨⟨by decide +kernel, by decide +kernel⟩, List.mem_of_getElem? (i := 13) (by decide +kernel), List.mem_of_getElem? (i := 388) (by decide +kernel), List.mem_of_getElem? (i := 389) (by decide +kernel)⟩
theorem lw_p12 : lw_okq (⟨"PlushFlocks$Evening", "act", "(LPlushFlocks$Plan;I)I"⟩, 6) := ⟨⟨by decide +kernel, by decide +kernel⟩, List.mem_of_getElem? (i := 83) (by decide +kernel), List.mem_of_getElem? (i := 400) (by decide +kernel), List.mem_of_getElem? (i := 401) (by decide +kernel)⟩
theorem lw_p13 : lw_okq (⟨"PlushFlocks$Evening", "graze", "(LPlushFlocks$Plan;II)I"⟩, 6) := ⟨⟨by decide +kernel, by decide +kernel⟩, List.mem_of_getElem? (i := 83) (by decide +kernel), List.mem_of_getElem? (i := 409) (by decide +kernel), List.mem_of_getElem? (i := 410) (by decide +kernel)⟩
theorem lw_p14 : lw_okq (⟨"PlushFlocks$Evening", "carpeted", "()I"⟩, 6) := ⟨⟨by decide +kernel, by decide +kernel⟩, List.mem_of_getElem? (i := 83) (by decide +kernel), List.mem_of_getElem? (i := 420) (by decide +kernel), List.mem_of_getElem? (i := 421) (by decide +kernel)⟩
theorem lw_p15 : lw_okq (⟨"PlushFlocks$WayBack", "reach", "(II)Z"⟩, 5) := ⟨⟨by decide +kernel, by decide +kernel⟩, List.mem_of_getElem? (i := 168) (by decide +kernel), List.mem_of_getElem? (i := 509) (by decide +kernel), List.mem_of_getElem? (i := 510) (by decide +kernel)⟩
def lw_privs_1 : List (MethodName × Nat) := [(⟨"PlushFlocks$Reader", "isTokenStart", "(I)Z"⟩, 9), (⟨"PlushFlocks$Reader", "letterAt", "(I)C"⟩, 9), (⟨"PlushFlocks$Reader", "isDigit", "(I)Z"⟩, 9), (⟨"PlushFlocks$Reader", "takes", "(I)Z"⟩, 9), (⟨"PlushFlocks$Reader", "numberAt", "(I)I"⟩, 9), (⟨"PlushFlocks$Reader", "takesNumber", "(I)Z"⟩, 9), (⟨"PlushFlocks$Reader", "mayBe", "(I)Z"⟩, 9), (⟨"PlushFlocks$Reader", "mayTellRoom", "(I)Z"⟩, 9), (⟨"PlushFlocks$Reader", "mayTellFlock", "(I)Z"⟩, 9), (⟨"PlushFlocks$Reader", "takesEnd", "()Z"⟩, 9), (⟨"PlushFlocks$Reader", "takesLetter", "(C)Z"⟩, 9), (⟨"PlushFlocks", "stepsTillBare", "(I)I"⟩, 11), (⟨"PlushFlocks$Evening", "act", "(LPlushFlocks$Plan;I)I"⟩, 6), (⟨"PlushFlocks$Evening", "graze", "(LPlushFlocks$Plan;II)I"⟩, 6), (⟨"PlushFlocks$Evening", "carpeted", "()I"⟩, 6), (⟨"PlushFlocks$WayBack", "reach", "(II)Z"⟩, 5)]
theorem lw_r1 : ∀ q ∈ lw_privs_1, lw_okq q := List.forall_mem_cons.mpr ⟨lw_p0, List.forall_mem_cons.mpr ⟨lw_p1, List.forall_mem_cons.mpr ⟨lw_p2, List.forall_mem_cons.mpr ⟨lw_p3, List.forall_mem_cons.mpr ⟨lw_p4, List.forall_mem_cons.mpr ⟨lw_p5, List.forall_mem_cons.mpr ⟨lw_p6, List.forall_mem_cons.mpr ⟨lw_p7, List.forall_mem_cons.mpr ⟨lw_p8, List.forall_mem_cons.mpr ⟨lw_p9, List.forall_mem_cons.mpr ⟨lw_p10, List.forall_mem_cons.mpr ⟨lw_p11, List.forall_mem_cons.mpr ⟨lw_p12, List.forall_mem_cons.mpr ⟨lw_p13, List.forall_mem_cons.mpr ⟨lw_p14, List.forall_mem_cons.mpr ⟨lw_p15, fun _ h => absurd h List.not_mem_nil⟩⟩⟩⟩⟩⟩⟩⟩⟩⟩⟩⟩⟩⟩⟩⟩
theorem lw_p16 : lw_okq (⟨"PlushFlocks$WayBack", "spread", "(LPlushFlocks$Plan;II)V"⟩, 5) := ⟨⟨by decide +kernel, by decide +kernel⟩, List.mem_of_getElem? (i := 168) (by decide +kernel), List.mem_of_getElem? (i := 513) (by decide +kernel), List.mem_of_getElem? (i := 514) (by decide +kernel)⟩
theorem lw_p17 : lw_okq (⟨"PlushFlocks$WayBack", "arrive", "(III)V"⟩, 5) := ⟨⟨by decide +kernel, by decide +kernel⟩, List.mem_of_getElem? (i := 168) (by decide +kernel), List.mem_of_getElem? (i := 522) (by decide +kernel), List.mem_of_getElem? (i := 523) (by decide +kernel)⟩
theorem lw_p18 : lw_okq (⟨"PlushFlocks", "sendsHome", "(I)Z"⟩, 11) := ⟨⟨by decide +kernel, by decide +kernel⟩, List.mem_of_getElem? (i := 13) (by decide +kernel), List.mem_of_getElem? (i := 530) (by decide +kernel), List.mem_of_getElem? (i := 531) (by decide +kernel)⟩
theorem lw_p19 : lw_okq (⟨"PlushFlocks$Grazing", "agrees", "(LPlushFlocks$Plan;I)Z"⟩, 7) := ⟨⟨by decide +kernel, by decide +kernel⟩, List.mem_of_getElem? (i := 136) (by decide +kernel), List.mem_of_getElem? (i := 582) (by decide +kernel), List.mem_of_getElem? (i := 583) (by decide +kernel)⟩
theorem lw_p20 : lw_okq (⟨"PlushFlocks$Grazing", "add", "(LPlushFlocks$Plan;I)V"⟩, 7) := ⟨⟨by decide +kernel, by decide +kernel⟩, List.mem_of_getElem? (i := 136) (by decide +kernel), List.mem_of_getElem? (i := 591) (by decide +kernel), List.mem_of_getElem? (i := 592) (by decide +kernel)⟩
theorem lw_p21 : lw_okq (⟨"PlushFlocks", "pile", "(I)I"⟩, 11) := ⟨⟨by decide +kernel, by decide +kernel⟩, List.mem_of_getElem? (i := 13) (by decide +kernel), List.mem_of_getElem? (i := 611) (by decide +kernel), List.mem_of_getElem? (i := 612) (by decide +kernel)⟩
theorem lw_p22 : lw_okq (⟨"PlushFlocks", "cord", "(I)I"⟩, 11) := ⟨⟨by decide +kernel, by decide +kernel⟩, List.mem_of_getElem? (i := 13) (by decide +kernel), List.mem_of_getElem? (i := 615) (by decide +kernel), List.mem_of_getElem? (i := 616) (by decide +kernel)⟩
theorem lw_p23 : lw_okq (⟨"PlushFlocks", "nap", "(I)I"⟩, 11) := ⟨⟨by decide +kernel, by decide +kernel⟩, List.mem_of_getElem? (i := 13) (by decide +kernel), List.mem_of_getElem? (i := 620) (by decide +kernel), List.mem_of_getElem? (i := 621) (by decide +kernel)⟩
theorem lw_p24 : lw_okq (⟨"PlushFlocks", "damask", "(I)I"⟩, 11) := ⟨⟨by decide +kernel, by decide +kernel⟩, List.mem_of_getElem? (i := 13) (by decide +kernel), List.mem_of_getElem? (i := 625) (by decide +kernel), List.mem_of_getElem? (i := 626) (by decide +kernel)⟩
theorem lw_p25 : lw_okq (⟨"PlushFlocks", "velvet", "(I)I"⟩, 11) := ⟨⟨by decide +kernel, by decide +kernel⟩, List.mem_of_getElem? (i := 13) (by decide +kernel), List.mem_of_getElem? (i := 630) (by decide +kernel), List.mem_of_getElem? (i := 631) (by decide +kernel)⟩
theorem lw_p26 : lw_okq (⟨"PlushFlocks", "fringe", "(I)I"⟩, 11) := ⟨⟨by decide +kernel, by decide +kernel⟩, List.mem_of_getElem? (i := 13) (by decide +kernel), List.mem_of_getElem? (i := 635) (by decide +kernel), List.mem_of_getElem? (i := 636) (by decide +kernel)⟩
theorem lw_p27 : lw_okq (⟨"PlushFlocksModel", "reads", "()Z"⟩, 19) := ⟨⟨by decide +kernel, by decide +kernel⟩, List.mem_of_getElem? (i := 657) (by decide +kernel), List.mem_of_getElem? (i := 663) (by decide +kernel), List.mem_of_getElem? (i := 664) (by decide +kernel)⟩
theorem lw_p28 : lw_okq (⟨"PlushFlocksModel", "token", "()V"⟩, 19) := ⟨⟨by decide +kernel, by decide +kernel⟩, List.mem_of_getElem? (i := 657) (by decide +kernel), List.mem_of_getElem? (i := 667) (by decide +kernel), List.mem_of_getElem? (i := 668) (by decide +kernel)⟩
theorem lw_p29 : lw_okq (⟨"PlushFlocksModel", "letterAt", "(I)I"⟩, 19) := ⟨⟨by decide +kernel, by decide +kernel⟩, List.mem_of_getElem? (i := 657) (by decide +kernel), List.mem_of_getElem? (i := 671) (by decide +kernel), List.mem_of_getElem? (i := 672) (by decide +kernel)⟩
theorem lw_p30 : lw_okq (⟨"PlushFlocksModel", "readsItem", "()Z"⟩, 19) := ⟨⟨by decide +kernel, by decide +kernel⟩, List.mem_of_getElem? (i := 657) (by decide +kernel), List.mem_of_getElem? (i := 684) (by decide +kernel), List.mem_of_getElem? (i := 685) (by decide +kernel)⟩
theorem lw_p31 : lw_okq (⟨"PlushFlocksModel", "number", "(III)Z"⟩, 19) := ⟨⟨by decide +kernel, by decide +kernel⟩, List.mem_of_getElem? (i := 657) (by decide +kernel), List.mem_of_getElem? (i := 688) (by decide +kernel), List.mem_of_getElem? (i := 689) (by decide +kernel)⟩
def lw_privs_2 : List (MethodName × Nat) := [(⟨"PlushFlocks$WayBack", "spread", "(LPlushFlocks$Plan;II)V"⟩, 5), (⟨"PlushFlocks$WayBack", "arrive", "(III)V"⟩, 5), (⟨"PlushFlocks", "sendsHome", "(I)Z"⟩, 11), (⟨"PlushFlocks$Grazing", "agrees", "(LPlushFlocks$Plan;I)Z"⟩, 7), (⟨"PlushFlocks$Grazing", "add", "(LPlushFlocks$Plan;I)V"⟩, 7), (⟨"PlushFlocks", "pile", "(I)I"⟩, 11), (⟨"PlushFlocks", "cord", "(I)I"⟩, 11), (⟨"PlushFlocks", "nap", "(I)I"⟩, 11), (⟨"PlushFlocks", "damask", "(I)I"⟩, 11), (⟨"PlushFlocks", "velvet", "(I)I"⟩, 11), (⟨"PlushFlocks", "fringe", "(I)I"⟩, 11), (⟨"PlushFlocksModel", "reads", "()Z"⟩, 19), (⟨"PlushFlocksModel", "token", "()V"⟩, 19), (⟨"PlushFlocksModel", "letterAt", "(I)I"⟩, 19), (⟨"PlushFlocksModel", "readsItem", "()Z"⟩, 19), (⟨"PlushFlocksModel", "number", "(III)Z"⟩, 19)]
theorem lw_r2 : ∀ q ∈ lw_privs_2, lw_okq q := List.forall_mem_cons.mpr ⟨lw_p16, List.forall_mem_cons.mpr ⟨lw_p17, List.forall_mem_cons.mpr ⟨lw_p18, List.forall_mem_cons.mpr ⟨lw_p19, List.forall_mem_cons.mpr ⟨lw_p20, List.forall_mem_cons.mpr ⟨lw_p21, List.forall_mem_cons.mpr ⟨lw_p22, List.forall_mem_cons.mpr ⟨lw_p23, List.forall_mem_cons.mpr ⟨lw_p24, List.forall_mem_cons.mpr ⟨lw_p25, List.forall_mem_cons.mpr ⟨lw_p26, List.forall_mem_cons.mpr ⟨lw_p27, List.forall_mem_cons.mpr ⟨lw_p28, List.forall_mem_cons.mpr ⟨lw_p29, List.forall_mem_cons.mpr ⟨lw_p30, List.forall_mem_cons.mpr ⟨lw_p31, fun _ h => absurd h List.not_mem_nil⟩⟩⟩⟩⟩⟩⟩⟩⟩⟩⟩⟩⟩⟩⟩⟩
theorem lw_p32 : lw_okq (⟨"PlushFlocksModel", "isNumber", "(II)Z"⟩, 19) := ⟨⟨by decide +kernel, by decide +kernel⟩, List.mem_of_getElem? (i := 657) (by decide +kernel), List.mem_of_getElem? (i := 692) (by decide +kernel), List.mem_of_getElem? (i := 693) (by decide +kernel)⟩
theorem lw_p33 : lw_okq (⟨"PlushFlocksModel", "readsDoor", "()Z"⟩, 19) := ⟨⟨by decide +kernel, by decide +kernel⟩, List.mem_of_getElem? (i := 657) (by decide +kernel), List.mem_of_getElem? (i := 696) (by decide +kernel), List.mem_of_getElem? (i := 697) (by decide +kernel)⟩
theorem lw_p34 : lw_okq (⟨"PlushFlocksModel", "begins", "()V"⟩, 19) := ⟨⟨by decide +kernel, by decide +kernel⟩, List.mem_of_getElem? (i := 657) (by decide +kernel), List.mem_of_getElem? (i := 700) (by decide +kernel), List.mem_of_getElem? (i := 701) (by decide +kernel)⟩
theorem lw_p35 : lw_okq (⟨"PlushFlocksModel", "isRoom", "(I)Z"⟩, 19) := ⟨⟨by decide +kernel, by decide +kernel⟩, List.mem_of_getElem? (i := 657) (by decide +kernel), List.mem_of_getElem? (i := 779) (by decide +kernel), List.mem_of_getElem? (i := 780) (by decide +kernel)⟩
theorem lw_p36 : lw_okq (⟨"PlushFlocksModel", "inRoom", "(I)I"⟩, 19) := ⟨⟨by decide +kernel, by decide +kernel⟩, List.mem_of_getElem? (i := 657) (by decide +kernel), List.mem_of_getElem? (i := 783) (by decide +kernel), List.mem_of_getElem? (i := 784) (by decide +kernel)⟩
theorem lw_p37 : lw_okq (⟨"PlushFlocksModel", "bare", "(I)I"⟩, 19) := ⟨⟨by decide +kernel, by decide +kernel⟩, List.mem_of_getElem? (i := 657) (by decide +kernel), List.mem_of_getElem? (i := 787) (by decide +kernel), List.mem_of_getElem? (i := 788) (by decide +kernel)⟩
theorem lw_p38 : lw_okq (⟨"PlushFlocksModel", "holds", "()V"⟩, 19) := ⟨⟨by decide +kernel, by decide +kernel⟩, List.mem_of_getElem? (i := 657) (by decide +kernel), List.mem_of_getElem? (i := 791) (by decide +kernel), List.mem_of_getElem? (i := 792) (by decide +kernel)⟩
theorem lw_p39 : lw_okq (⟨"PlushFlocksModel", "steps", "()I"⟩, 19) := ⟨⟨by decide +kernel, by decide +kernel⟩, List.mem_of_getElem? (i := 657) (by decide +kernel), List.mem_of_getElem? (i := 795) (by decide +kernel), List.mem_of_getElem? (i := 796) (by decide +kernel)⟩
theorem lw_p40 : lw_okq (⟨"PlushFlocksModel", "beyond", "(IZ)I"⟩, 19) := ⟨⟨by decide +kernel, by decide +kernel⟩, List.mem_of_getElem? (i := 657) (by decide +kernel), List.mem_of_getElem? (i := 802) (by decide +kernel), List.mem_of_getElem? (i := 803) (by decide +kernel)⟩
theorem lw_p41 : lw_okq (⟨"PlushFlocksModel", "lets", "()V"⟩, 19) := ⟨⟨by decide +kernel, by decide +kernel⟩, List.mem_of_getElem? (i := 657) (by decide +kernel), List.mem_of_getElem? (i := 809) (by decide +kernel), List.mem_of_getElem? (i := 810) (by decide +kernel)⟩
theorem lw_p42 : lw_okq (⟨"PlushFlocksModel", "isFlock", "(I)Z"⟩, 19) := ⟨⟨by decide +kernel, by decide +kernel⟩, List.mem_of_getElem? (i := 657) (by decide +kernel), List.mem_of_getElem? (i := 817) (by decide +kernel), List.mem_of_getElem? (i := 818) (by decide +kernel)⟩
theorem lw_p43 : lw_okq (⟨"PlushFlocksModel", "strays", "()I"⟩, 19) := ⟨⟨by decide +kernel, by decide +kernel⟩, List.mem_of_getElem? (i := 657) (by decide +kernel), List.mem_of_getElem? (i := 825) (by decide +kernel), List.mem_of_getElem? (i := 826) (by decide +kernel)⟩
theorem lw_p44 : lw_okq (⟨"PlushFlocksModel", "keeps", "()V"⟩, 19) := ⟨⟨by decide +kernel, by decide +kernel⟩, List.mem_of_getElem? (i := 657) (by decide +kernel), List.mem_of_getElem? (i := 833) (by decide +kernel), List.mem_of_getElem? (i := 834) (by decide +kernel)⟩
theorem lw_p45 : lw_okq (⟨"PlushFlocksModel", "mayDrive", "(II)Z"⟩, 19) := ⟨⟨by decide +kernel, by decide +kernel⟩, List.mem_of_getElem? (i := 657) (by decide +kernel), List.mem_of_getElem? (i := 841) (by decide +kernel), List.mem_of_getElem? (i := 842) (by decide +kernel)⟩
theorem lw_p46 : lw_okq (⟨"PlushFlocksModel", "codeNow", "()I"⟩, 19) := ⟨⟨by decide +kernel, by decide +kernel⟩, List.mem_of_getElem? (i := 657) (by decide +kernel), List.mem_of_getElem? (i := 865) (by decide +kernel), List.mem_of_getElem? (i := 866) (by decide +kernel)⟩
theorem lw_p47 : lw_okq (⟨"PlushFlocksModel", "places", "(I)V"⟩, 19) := ⟨⟨by decide +kernel, by decide +kernel⟩, List.mem_of_getElem? (i := 657) (by decide +kernel), List.mem_of_getElem? (i := 872) (by decide +kernel), List.mem_of_getElem? (i := 873) (by decide +kernel)⟩
def lw_privs_3 : List (MethodName × Nat) := [(⟨"PlushFlocksModel", "isNumber", "(II)Z"⟩, 19), (⟨"PlushFlocksModel", "readsDoor", "()Z"⟩, 19), (⟨"PlushFlocksModel", "begins", "()V"⟩, 19), (⟨"PlushFlocksModel", "isRoom", "(I)Z"⟩, 19), (⟨"PlushFlocksModel", "inRoom", "(I)I"⟩, 19), (⟨"PlushFlocksModel", "bare", "(I)I"⟩, 19), (⟨"PlushFlocksModel", "holds", "()V"⟩, 19), (⟨"PlushFlocksModel", "steps", "()I"⟩, 19), (⟨"PlushFlocksModel", "beyond", "(IZ)I"⟩, 19), (⟨"PlushFlocksModel", "lets", "()V"⟩, 19), (⟨"PlushFlocksModel", "isFlock", "(I)Z"⟩, 19), (⟨"PlushFlocksModel", "strays", "()I"⟩, 19), (⟨"PlushFlocksModel", "keeps", "()V"⟩, 19), (⟨"PlushFlocksModel", "mayDrive", "(II)Z"⟩, 19), (⟨"PlushFlocksModel", "codeNow", "()I"⟩, 19), (⟨"PlushFlocksModel", "places", "(I)V"⟩, 19)]
theorem lw_r3 : ∀ q ∈ lw_privs_3, lw_okq q := List.forall_mem_cons.mpr ⟨lw_p32, List.forall_mem_cons.mpr ⟨lw_p33, List.forall_mem_cons.mpr ⟨lw_p34, List.forall_mem_cons.mpr ⟨lw_p35, List.forall_mem_cons.mpr ⟨lw_p36, List.forall_mem_cons.mpr ⟨lw_p37, List.forall_mem_cons.mpr ⟨lw_p38, List.forall_mem_cons.mpr ⟨lw_p39, List.forall_mem_cons.mpr ⟨lw_p40, List.forall_mem_cons.mpr ⟨lw_p41, List.forall_mem_cons.mpr ⟨lw_p42, List.forall_mem_cons.mpr ⟨lw_p43, List.forall_mem_cons.mpr ⟨lw_p44, List.forall_mem_cons.mpr ⟨lw_p45, List.forall_mem_cons.mpr ⟨lw_p46, List.forall_mem_cons.mpr ⟨lw_p47, fun _ h => absurd h List.not_mem_nil⟩⟩⟩⟩⟩⟩⟩⟩⟩⟩⟩⟩⟩⟩⟩⟩
theorem lw_p48 : lw_okq (⟨"PlushFlocksModel", "firstDrive", "()I"⟩, 19) := ⟨⟨by decide +kernel, by decide +kernel⟩, List.mem_of_getElem? (i := 657) (by decide +kernel), List.mem_of_getElem? (i := 876) (by decide +kernel), List.mem_of_getElem? (i := 877) (by decide +kernel)⟩
theorem lw_p49 : lw_okq (⟨"PlushFlocksModel", "manyWith", "(I)I"⟩, 19) := ⟨⟨by decide +kernel, by decide +kernel⟩, List.mem_of_getElem? (i := 657) (by decide +kernel), List.mem_of_getElem? (i := 904) (by decide +kernel), List.mem_of_getElem? (i := 905) (by decide +kernel)⟩
theorem lw_p50 : lw_okq (⟨"PlushFlocksModel", "isSo", "(I)Z"⟩, 19) := ⟨⟨by decide +kernel, by decide +kernel⟩, List.mem_of_getElem? (i := 657) (by decide +kernel), List.mem_of_getElem? (i := 908) (by decide +kernel), List.mem_of_getElem? (i := 909) (by decide +kernel)⟩
def lw_privs_4 : List (MethodName × Nat) := [(⟨"PlushFlocksModel", "firstDrive", "()I"⟩, 19), (⟨"PlushFlocksModel", "manyWith", "(I)I"⟩, 19), (⟨"PlushFlocksModel", "isSo", "(I)Z"⟩, 19)]
theorem lw_r4 : ∀ q ∈ lw_privs_4, lw_okq q := List.forall_mem_cons.mpr ⟨lw_p48, List.forall_mem_cons.mpr ⟨lw_p49, List.forall_mem_cons.mpr ⟨lw_p50, fun _ h => absurd h List.not_mem_nil⟩⟩⟩
def lw_privs : List (MethodName × Nat) := lw_privs_1 ++ (lw_privs_2 ++ (lw_privs_3 ++ (lw_privs_4)))
def lw_tbl : List Cond := k2_sels lw_privs ++ tables_1
theorem lw_privs_ok : ∀ q ∈ lw_privs, lw_okq q := by
  show ∀ q ∈ lw_privs_1 ++ (lw_privs_2 ++ (lw_privs_3 ++ (lw_privs_4))), lw_okq q
  exact List.forall_mem_append.mpr ⟨lw_r1, List.forall_mem_append.mpr ⟨lw_r2, List.forall_mem_append.mpr ⟨lw_r3, lw_r4⟩⟩⟩
-- ===== end of PART A; then your names; then what follows =====
/-! ===== BEGIN words of one list among another's, by their places ===== -/
theorem goodIn_r {big : List Cond} (ws : List Cond) (ps : List Nat) (hp : ws = ps.filterMap (fun i => big[i]?)) (h : ws.all goodWord = true) : GoodIn big ws := by
  intro w hw
  have h1 := List.all_eq_true.mp h w hw
  rw [hp] at hw
  obtain ⟨i, -, hi⟩ := List.mem_filterMap.mp hw
  have hm : w ∈ big := by first | exact List.mem_of_getElem? hi | exact List.getElem?_mem hi
  exact ⟨hm, good_of_word h1⟩
theorem goodIn_app {big a b : List Cond} (ha : GoodIn big a) (hb : GoodIn big b) : GoodIn big (a ++ b) := fun w h => (List.mem_append.mp h).elim (ha w) (hb w)
theorem goodIn_ca {big a b : List Cond} {c : Cond} (ha : GoodIn big (c :: a)) (hb : GoodIn big b) : GoodIn big (c :: (a ++ b)) := fun w h => (List.mem_cons.mp h).elim (fun e => ha w (List.mem_cons.mpr (Or.inl e))) (fun h => (List.mem_append.mp h).elim (fun h => ha w (List.mem_cons.mpr (Or.inr h))) (hb w))
theorem goodIn_sub {big ws : List Cond} (hm : ∀ w ∈ ws, w ∈ big) (h : ws.all goodWord = true) : GoodIn big ws := fun w hw => ⟨hm w hw, good_of_word (List.all_eq_true.mp h w hw)⟩
/-! ===== END ===== -/

/-! ===== BEGIN printed: names, fields, word lists, decode rows ===== -/
def RX0 : String := "PlushFlocks$Evening"
def TX0 : u_T := fun k => match k with
  | 0 => ("PlushFlocks$Evening", "places", "I", false)
  | 1 => ("PlushFlocks$Evening", "carpets", "J", false)
  | 2 => ("PlushFlocks$Evening", "eaten", "J", false)
  | 3 => ("PlushFlocks$Evening", "lambs", "J", false)
  | 4 => ("PlushFlocks$Evening", "dogs", "I", false)
  | _ => ("PlushFlocks$Evening", "night", "I", false)
def tyX0 : Nat → FieldType := fun k => match k with
  | 0 => .int
  | 1 => .long
  | 2 => .long
  | 3 => .long
  | 4 => .int
  | _ => .int
abbrev wsX00 : List Cond := u_ws RX0 TX0 6
theorem nmX0 : ∀ a, a < 6 → ∀ b, b < 6 → a ≠ b → (TX0 a).2.1 ≠ (TX0 b).2.1 := by decide +kernel
theorem tyX0_ok : ∀ k, k < 6 → parseFieldDescriptor (TX0 k).2.2.1 = some (tyX0 k) := by decide +kernel
abbrev cX0_init : ByteArray := prog_2_method_1_code
def yX0_init : MethodName := ⟨RX0, "<init>", "()V"⟩
abbrev cX0_become : ByteArray := prog_2_method_2_code
def yX0_become : MethodName := ⟨RX0, "become", "(LPlushFlocks$Evening;)V"⟩
abbrev cX0_begin : ByteArray := prog_2_method_3_code
def yX0_begin : MethodName := ⟨RX0, "begin", "(LPlushFlocks$Plan;)V"⟩
abbrev cX0_pass : ByteArray := prog_2_method_4_code
def yX0_pass : MethodName := ⟨RX0, "pass", "(LPlushFlocks$Plan;)I"⟩
abbrev cX0_act : ByteArray := prog_2_method_5_code
def yX0_act : MethodName := ⟨RX0, "act", "(LPlushFlocks$Plan;I)I"⟩
abbrev cX0_graze : ByteArray := prog_2_method_6_code
def yX0_graze : MethodName := ⟨RX0, "graze", "(LPlushFlocks$Plan;II)I"⟩
abbrev cX0_carpeted : ByteArray := prog_2_method_7_code
def yX0_carpeted : MethodName := ⟨RX0, "carpeted", "()I"⟩
abbrev cX0_brighten : ByteArray := prog_2_method_8_code
def yX0_brighten : MethodName := ⟨RX0, "brighten", "(LPlushFlocks$Plan;)V"⟩
def RX1 : String := "PlushFlocks$Grazing"
def TX1 : u_T := fun k => match k with
  | 0 => ("PlushFlocks$Grazing", "sets", "J", false)
  | 1 => ("PlushFlocks$Grazing", "sums", "J", false)
  | 2 => ("PlushFlocks$Grazing", "waysWith", "J", false)
  | 3 => ("PlushFlocks$Grazing", "told", "I", false)
  | 4 => ("PlushFlocks$Grazing", "ways", "I", false)
  | 5 => ("PlushFlocks$Grazing", "inAll", "I", false)
  | _ => ("PlushFlocks$Grazing", "inSome", "I", false)
def tyX1 : Nat → FieldType := fun k => match k with
  | 0 => .long
  | 1 => .long
  | 2 => .long
  | 3 => .int
  | 4 => .int
  | 5 => .int
  | _ => .int
abbrev wsX10 : List Cond := u_ws RX1 TX1 7
theorem nmX1 : ∀ a, a < 7 → ∀ b, b < 7 → a ≠ b → (TX1 a).2.1 ≠ (TX1 b).2.1 := by decide +kernel
theorem tyX1_ok : ∀ k, k < 7 → parseFieldDescriptor (TX1 k).2.2.1 = some (tyX1 k) := by decide +kernel
abbrev cX1_init : ByteArray := prog_3_method_1_code
def yX1_init : MethodName := ⟨RX1, "<init>", "()V"⟩
abbrev cX1_hear : ByteArray := prog_3_method_2_code
def yX1_hear : MethodName := ⟨RX1, "hear", "(II)Z"⟩
abbrev cX1_lose : ByteArray := prog_3_method_3_code
def yX1_lose : MethodName := ⟨RX1, "lose", "()V"⟩
abbrev cX1_weigh : ByteArray := prog_3_method_4_code
def yX1_weigh : MethodName := ⟨RX1, "weigh", "(LPlushFlocks$Plan;)V"⟩
abbrev cX1_agrees : ByteArray := prog_3_method_5_code
def yX1_agrees : MethodName := ⟨RX1, "agrees", "(LPlushFlocks$Plan;I)Z"⟩
abbrev cX1_eatenBy : ByteArray := prog_3_method_6_code
def yX1_eatenBy : MethodName := ⟨RX1, "eatenBy", "(LPlushFlocks$Plan;I)I"⟩
abbrev cX1_add : ByteArray := prog_3_method_7_code
def yX1_add : MethodName := ⟨RX1, "add", "(LPlushFlocks$Plan;I)V"⟩
abbrev cX1_bestAsked : ByteArray := prog_3_method_8_code
def yX1_bestAsked : MethodName := ⟨RX1, "bestAsked", "(I)I"⟩
def RX2 : String := "PlushFlocks$Past"
def TX2 : u_T := fun k => match k with
  | 0 => ("PlushFlocks$Past", "ring", "[LPlushFlocks$Evening;", true)
  | 1 => ("PlushFlocks$Past", "next", "I", false)
  | _ => ("PlushFlocks$Past", "known", "I", false)
def tyX2 : Nat → FieldType := fun k => match k with
  | 0 => .array (.object "PlushFlocks$Evening")
  | 1 => .int
  | _ => .int
abbrev wsX20 : List Cond := u_ws RX2 TX2 3
theorem nmX2 : ∀ a, a < 3 → ∀ b, b < 3 → a ≠ b → (TX2 a).2.1 ≠ (TX2 b).2.1 := by decide +kernel
theorem tyX2_ok : ∀ k, k < 3 → parseFieldDescriptor (TX2 k).2.2.1 = some (tyX2 k) := by decide +kernel
abbrev cX2_init : ByteArray := prog_4_method_1_code
def yX2_init : MethodName := ⟨RX2, "<init>", "()V"⟩
abbrev cX2_remember : ByteArray := prog_4_method_2_code
def yX2_remember : MethodName := ⟨RX2, "remember", "(LPlushFlocks$Evening;)V"⟩
abbrev cX2_giveBack : ByteArray := prog_4_method_3_code
def yX2_giveBack : MethodName := ⟨RX2, "giveBack", "(LPlushFlocks$Evening;)Z"⟩
abbrev cX2_lose : ByteArray := prog_4_method_4_code
def yX2_lose : MethodName := ⟨RX2, "lose", "()V"⟩
def RX3 : String := "PlushFlocks$Plan"
def TX3 : u_T := fun k => match k with
  | 0 => ("PlushFlocks$Plan", "rooms", "I", false)
  | 1 => ("PlushFlocks$Plan", "flocks", "I", false)
  | 2 => ("PlushFlocks$Plan", "lambAt", "I", false)
  | 3 => ("PlushFlocks$Plan", "lambAtTold", "Z", false)
  | 4 => ("PlushFlocks$Plan", "holds", "J", false)
  | 5 => ("PlushFlocks$Plan", "carpets", "J", false)
  | 6 => ("PlushFlocks$Plan", "doors", "J", false)
  | 7 => ("PlushFlocks$Plan", "homes", "I", false)
  | 8 => ("PlushFlocks$Plan", "hungers", "J", false)
  | _ => ("PlushFlocks$Plan", "stuffs", "J", false)
def tyX3 : Nat → FieldType := fun k => match k with
  | 0 => .int
  | 1 => .int
  | 2 => .int
  | 3 => .boolean
  | 4 => .long
  | 5 => .long
  | 6 => .long
  | 7 => .int
  | 8 => .long
  | _ => .long
abbrev wsX30 : List Cond := u_ws RX3 TX3 10
theorem nmX3 : ∀ a, a < 10 → ∀ b, b < 10 → a ≠ b → (TX3 a).2.1 ≠ (TX3 b).2.1 := by decide +kernel
theorem tyX3_ok : ∀ k, k < 10 → parseFieldDescriptor (TX3 k).2.2.1 = some (tyX3 k) := by decide +kernel
abbrev cX3_init : ByteArray := prog_5_method_1_code
def yX3_init : MethodName := ⟨RX3, "<init>", "()V"⟩
abbrev cX3_hasRoom : ByteArray := prog_5_method_2_code
def yX3_hasRoom : MethodName := ⟨RX3, "hasRoom", "(I)Z"⟩
abbrev cX3_hasFlock : ByteArray := prog_5_method_3_code
def yX3_hasFlock : MethodName := ⟨RX3, "hasFlock", "(I)Z"⟩
abbrev cX3_addRoom : ByteArray := prog_5_method_4_code
def yX3_addRoom : MethodName := ⟨RX3, "addRoom", "(II)V"⟩
abbrev cX3_addDoor : ByteArray := prog_5_method_5_code
def yX3_addDoor : MethodName := ⟨RX3, "addDoor", "(II)V"⟩
abbrev cX3_addFlock : ByteArray := prog_5_method_6_code
def yX3_addFlock : MethodName := ⟨RX3, "addFlock", "(III)V"⟩
abbrev cX3_tellLambAt : ByteArray := prog_5_method_7_code
def yX3_tellLambAt : MethodName := ⟨RX3, "tellLambAt", "(I)V"⟩
abbrev cX3_flocksIn : ByteArray := prog_5_method_8_code
def yX3_flocksIn : MethodName := ⟨RX3, "flocksIn", "(II)I"⟩
abbrev cX3_strays : ByteArray := prog_5_method_9_code
def yX3_strays : MethodName := ⟨RX3, "strays", "(I)I"⟩
abbrev cX3_openRooms : ByteArray := prog_5_method_10_code
def yX3_openRooms : MethodName := ⟨RX3, "openRooms", "(II)I"⟩
abbrev cX3_roomsTaken : ByteArray := prog_5_method_11_code
def yX3_roomsTaken : MethodName := ⟨RX3, "roomsTaken", "(II)I"⟩
abbrev cX3_mayJoin : ByteArray := prog_5_method_12_code
def yX3_mayJoin : MethodName := ⟨RX3, "mayJoin", "(III)Z"⟩
def RX4 : String := "PlushFlocks$Reader"
def TX4 : u_T := fun k => match k with
  | 0 => ("PlushFlocks$Reader", "text", "[C", true)
  | 1 => ("PlushFlocks$Reader", "length", "I", true)
  | 2 => ("PlushFlocks$Reader", "item", "C", false)
  | 3 => ("PlushFlocks$Reader", "numbers", "I", false)
  | 4 => ("PlushFlocks$Reader", "one", "I", false)
  | 5 => ("PlushFlocks$Reader", "two", "I", false)
  | 6 => ("PlushFlocks$Reader", "three", "I", false)
  | 7 => ("PlushFlocks$Reader", "items", "I", false)
  | _ => ("PlushFlocks$Reader", "plan", "LPlushFlocks$Plan;", true)
def tyX4 : Nat → FieldType := fun k => match k with
  | 0 => .array .char
  | 1 => .int
  | 2 => .char
  | 3 => .int
  | 4 => .int
  | 5 => .int
  | 6 => .int
  | 7 => .int
  | _ => .object "PlushFlocks$Plan"
abbrev wsX40 : List Cond := u_ws RX4 TX4 9
theorem nmX4 : ∀ a, a < 9 → ∀ b, b < 9 → a ≠ b → (TX4 a).2.1 ≠ (TX4 b).2.1 := by decide +kernel
theorem tyX4_ok : ∀ k, k < 9 → parseFieldDescriptor (TX4 k).2.2.1 = some (tyX4 k) := by decide +kernel
abbrev cX4_init : ByteArray := prog_6_method_1_code
def yX4_init : MethodName := ⟨RX4, "<init>", "([CI)V"⟩
abbrev cX4_readAll : ByteArray := prog_6_method_2_code
def yX4_readAll : MethodName := ⟨RX4, "readAll", "()I"⟩
abbrev cX4_letterAt : ByteArray := prog_6_method_3_code
def yX4_letterAt : MethodName := ⟨RX4, "letterAt", "(I)C"⟩
abbrev cX4_isDigit : ByteArray := prog_6_method_4_code
def yX4_isDigit : MethodName := ⟨RX4, "isDigit", "(I)Z"⟩
abbrev cX4_isTokenStart : ByteArray := prog_6_method_5_code
def yX4_isTokenStart : MethodName := ⟨RX4, "isTokenStart", "(I)Z"⟩
abbrev cX4_takes : ByteArray := prog_6_method_6_code
def yX4_takes : MethodName := ⟨RX4, "takes", "(I)Z"⟩
abbrev cX4_numberAt : ByteArray := prog_6_method_7_code
def yX4_numberAt : MethodName := ⟨RX4, "numberAt", "(I)I"⟩
abbrev cX4_takesLetter : ByteArray := prog_6_method_8_code
def yX4_takesLetter : MethodName := ⟨RX4, "takesLetter", "(C)Z"⟩
abbrev cX4_takesNumber : ByteArray := prog_6_method_9_code
def yX4_takesNumber : MethodName := ⟨RX4, "takesNumber", "(I)Z"⟩
abbrev cX4_mayBe : ByteArray := prog_6_method_10_code
def yX4_mayBe : MethodName := ⟨RX4, "mayBe", "(I)Z"⟩
abbrev cX4_mayTellRoom : ByteArray := prog_6_method_11_code
def yX4_mayTellRoom : MethodName := ⟨RX4, "mayTellRoom", "(I)Z"⟩
abbrev cX4_mayTellFlock : ByteArray := prog_6_method_12_code
def yX4_mayTellFlock : MethodName := ⟨RX4, "mayTellFlock", "(I)Z"⟩
abbrev cX4_takesEnd : ByteArray := prog_6_method_13_code
def yX4_takesEnd : MethodName := ⟨RX4, "takesEnd", "()Z"⟩
abbrev cX4_numbersOf : ByteArray := prog_6_method_14_code
def yX4_numbersOf : MethodName := ⟨RX4, "numbersOf", "(C)I"⟩
def RX5 : String := "PlushFlocks$WayBack"
def TX5 : u_T := fun k => match k with
  | 0 => ("PlushFlocks$WayBack", "queue", "[I", true)
  | 1 => ("PlushFlocks$WayBack", "seen", "[J", true)
  | 2 => ("PlushFlocks$WayBack", "end", "I", false)
  | 3 => ("PlushFlocks$WayBack", "fewest", "I", false)
  | _ => ("PlushFlocks$WayBack", "first", "I", false)
def tyX5 : Nat → FieldType := fun k => match k with
  | 0 => .array .int
  | 1 => .array .long
  | 2 => .int
  | 3 => .int
  | _ => .int
abbrev wsX50 : List Cond := u_ws RX5 TX5 5
theorem nmX5 : ∀ a, a < 5 → ∀ b, b < 5 → a ≠ b → (TX5 a).2.1 ≠ (TX5 b).2.1 := by decide +kernel
theorem tyX5_ok : ∀ k, k < 5 → parseFieldDescriptor (TX5 k).2.2.1 = some (tyX5 k) := by decide +kernel
abbrev cX5_init : ByteArray := prog_7_method_1_code
def yX5_init : MethodName := ⟨RX5, "<init>", "()V"⟩
abbrev cX5_search : ByteArray := prog_7_method_2_code
def yX5_search : MethodName := ⟨RX5, "search", "(LPlushFlocks$Plan;LPlushFlocks$Evening;)V"⟩
abbrev cX5_spread : ByteArray := prog_7_method_3_code
def yX5_spread : MethodName := ⟨RX5, "spread", "(LPlushFlocks$Plan;II)V"⟩
abbrev cX5_arrive : ByteArray := prog_7_method_4_code
def yX5_arrive : MethodName := ⟨RX5, "arrive", "(III)V"⟩
abbrev cX5_reach : ByteArray := prog_7_method_5_code
def yX5_reach : MethodName := ⟨RX5, "reach", "(II)Z"⟩
def RX6 : String := "PlushFlocks"
def TX6 : u_T := fun k => match k with
  | 0 => ("PlushFlocks", "text", "[C", true)
  | 1 => ("PlushFlocks", "letters", "I", false)
  | 2 => ("PlushFlocks", "plan", "LPlushFlocks$Plan;", false)
  | 3 => ("PlushFlocks", "evening", "LPlushFlocks$Evening;", true)
  | 4 => ("PlushFlocks", "trial", "LPlushFlocks$Evening;", true)
  | 5 => ("PlushFlocks", "past", "LPlushFlocks$Past;", true)
  | 6 => ("PlushFlocks", "images", "[LPlushFlocks$Evening;", true)
  | 7 => ("PlushFlocks", "imagesKept", "I", false)
  | 8 => ("PlushFlocks", "grazing", "LPlushFlocks$Grazing;", true)
  | 9 => ("PlushFlocks", "wayBack", "LPlushFlocks$WayBack;", true)
  | _ => ("PlushFlocks", "traced", "J", false)
def tyX6 : Nat → FieldType := fun k => match k with
  | 0 => .array .char
  | 1 => .int
  | 2 => .object "PlushFlocks$Plan"
  | 3 => .object "PlushFlocks$Evening"
  | 4 => .object "PlushFlocks$Evening"
  | 5 => .object "PlushFlocks$Past"
  | 6 => .array (.object "PlushFlocks$Evening")
  | 7 => .int
  | 8 => .object "PlushFlocks$Grazing"
  | 9 => .object "PlushFlocks$WayBack"
  | _ => .long
abbrev wsX60 : List Cond := u_ws RX6 TX6 11
theorem nmX6 : ∀ a, a < 11 → ∀ b, b < 11 → a ≠ b → (TX6 a).2.1 ≠ (TX6 b).2.1 := by decide +kernel
theorem tyX6_ok : ∀ k, k < 11 → parseFieldDescriptor (TX6 k).2.2.1 = some (tyX6 k) := by decide +kernel
abbrev cX6_init : ByteArray := prog_1_method_1_code
def yX6_init : MethodName := ⟨RX6, "<init>", "()V"⟩
abbrev cX6_type : ByteArray := prog_1_method_2_code
def yX6_type : MethodName := ⟨RX6, "type", "(I)I"⟩
abbrev cX6_clear : ByteArray := prog_1_method_3_code
def yX6_clear : MethodName := ⟨RX6, "clear", "()I"⟩
abbrev cX6_house : ByteArray := prog_1_method_4_code
def yX6_house : MethodName := ⟨RX6, "house", "()I"⟩
abbrev cX6_room : ByteArray := prog_1_method_5_code
def yX6_room : MethodName := ⟨RX6, "room", "(II)I"⟩
abbrev cX6_flock : ByteArray := prog_1_method_6_code
def yX6_flock : MethodName := ⟨RX6, "flock", "(II)I"⟩
abbrev cX6_now : ByteArray := prog_1_method_7_code
def yX6_now : MethodName := ⟨RX6, "now", "(I)I"⟩
abbrev cX6_stepsTillBare : ByteArray := prog_1_method_8_code
def yX6_stepsTillBare : MethodName := ⟨RX6, "stepsTillBare", "(I)I"⟩
abbrev cX6_step : ByteArray := prog_1_method_9_code
def yX6_step : MethodName := ⟨RX6, "step", "()I"⟩
abbrev cX6_drives : ByteArray := prog_1_method_10_code
def yX6_drives : MethodName := ⟨RX6, "drives", "(II)I"⟩
abbrev cX6_puts : ByteArray := prog_1_method_11_code
def yX6_puts : MethodName := ⟨RX6, "puts", "(I)I"⟩
abbrev cX6_calls : ByteArray := prog_1_method_12_code
def yX6_calls : MethodName := ⟨RX6, "calls", "(I)I"⟩
abbrev cX6_dawn : ByteArray := prog_1_method_13_code
def yX6_dawn : MethodName := ⟨RX6, "dawn", "()I"⟩
abbrev cX6_undo : ByteArray := prog_1_method_14_code
def yX6_undo : MethodName := ⟨RX6, "undo", "()I"⟩
abbrev cX6_back : ByteArray := prog_1_method_15_code
def yX6_back : MethodName := ⟨RX6, "back", "(I)I"⟩
abbrev cX6_homing : ByteArray := prog_1_method_16_code
def yX6_homing : MethodName := ⟨RX6, "homing", "()I"⟩
abbrev cX6_apart : ByteArray := prog_1_method_17_code
def yX6_apart : MethodName := ⟨RX6, "apart", "(I)I"⟩
abbrev cX6_odds : ByteArray := prog_1_method_18_code
def yX6_odds : MethodName := ⟨RX6, "odds", "(III)I"⟩
abbrev cX6_sendsHome : ByteArray := prog_1_method_19_code
def yX6_sendsHome : MethodName := ⟨RX6, "sendsHome", "(I)Z"⟩
abbrev cX6_cheapest : ByteArray := prog_1_method_20_code
def yX6_cheapest : MethodName := ⟨RX6, "cheapest", "(LPlushFlocks$Plan;III)I"⟩
abbrev cX6_tells : ByteArray := prog_1_method_21_code
def yX6_tells : MethodName := ⟨RX6, "tells", "(II)I"⟩
abbrev cX6_forget : ByteArray := prog_1_method_22_code
def yX6_forget : MethodName := ⟨RX6, "forget", "()I"⟩
abbrev cX6_can : ByteArray := prog_1_method_23_code
def yX6_can : MethodName := ⟨RX6, "can", "(I)I"⟩
abbrev cX6_ask : ByteArray := prog_1_method_24_code
def yX6_ask : MethodName := ⟨RX6, "ask", "()I"⟩
abbrev cX6_rate : ByteArray := prog_1_method_25_code
def yX6_rate : MethodName := ⟨RX6, "rate", "(II)I"⟩
abbrev cX6_keep : ByteArray := prog_1_method_26_code
def yX6_keep : MethodName := ⟨RX6, "keep", "(I)I"⟩
abbrev cX6_again : ByteArray := prog_1_method_27_code
def yX6_again : MethodName := ⟨RX6, "again", "(I)I"⟩
abbrev cX6_count : ByteArray := prog_1_method_28_code
def yX6_count : MethodName := ⟨RX6, "count", "(I)I"⟩
abbrev cX6_trace : ByteArray := prog_1_method_29_code
def yX6_trace : MethodName := ⟨RX6, "trace", "()J"⟩
abbrev cX6_pile : ByteArray := prog_1_method_30_code
def yX6_pile : MethodName := ⟨RX6, "pile", "(I)I"⟩
abbrev cX6_cord : ByteArray := prog_1_method_31_code
def yX6_cord : MethodName := ⟨RX6, "cord", "(I)I"⟩
abbrev cX6_nap : ByteArray := prog_1_method_32_code
def yX6_nap : MethodName := ⟨RX6, "nap", "(I)I"⟩
abbrev cX6_damask : ByteArray := prog_1_method_33_code
def yX6_damask : MethodName := ⟨RX6, "damask", "(I)I"⟩
abbrev cX6_velvet : ByteArray := prog_1_method_34_code
def yX6_velvet : MethodName := ⟨RX6, "velvet", "(I)I"⟩
abbrev cX6_fringe : ByteArray := prog_1_method_35_code
def yX6_fringe : MethodName := ⟨RX6, "fringe", "(I)I"⟩
abbrev cX6_lane : ByteArray := prog_1_method_36_code
def yX6_lane : MethodName := ⟨RX6, "lane", "(JI)I"⟩
abbrev cX6_withLane : ByteArray := prog_1_method_37_code
def yX6_withLane : MethodName := ⟨RX6, "withLane", "(JII)J"⟩
abbrev cX6_sum : ByteArray := prog_1_method_38_code
def yX6_sum : MethodName := ⟨RX6, "sum", "(J)I"⟩
abbrev cX6_spot : ByteArray := prog_1_method_39_code
def yX6_spot : MethodName := ⟨RX6, "spot", "(II)I"⟩
abbrev cX6_withSpot : ByteArray := prog_1_method_40_code
def yX6_withSpot : MethodName := ⟨RX6, "withSpot", "(III)I"⟩
abbrev cX6_has : ByteArray := prog_1_method_41_code
def yX6_has : MethodName := ⟨RX6, "has", "(II)Z"⟩
abbrev cX6_lowest : ByteArray := prog_1_method_42_code
def yX6_lowest : MethodName := ⟨RX6, "lowest", "(I)I"⟩
abbrev cX6_slot : ByteArray := prog_1_method_43_code
def yX6_slot : MethodName := ⟨RX6, "slot", "([LPlushFlocks$Evening;I)LPlushFlocks$Evening;"⟩
abbrev cX6_power : ByteArray := prog_1_method_44_code
def yX6_power : MethodName := ⟨RX6, "power", "(II)I"⟩
abbrev cX6_commonDivisor : ByteArray := prog_1_method_45_code
def yX6_commonDivisor : MethodName := ⟨RX6, "commonDivisor", "(II)I"⟩
def RX7 : String := "PlushFlocksModel"
def TX7 : u_T := fun k => match k with
  | 0 => ("PlushFlocksModel", "trace", "J", false)
  | 1 => ("PlushFlocksModel", "text", "[I", true)
  | 2 => ("PlushFlocksModel", "typed", "I", false)
  | 3 => ("PlushFlocksModel", "told", "[I", true)
  | 4 => ("PlushFlocksModel", "draft", "[I", true)
  | 5 => ("PlushFlocksModel", "s", "[I", true)
  | 6 => ("PlushFlocksModel", "past", "[I", true)
  | 7 => ("PlushFlocksModel", "known", "I", false)
  | 8 => ("PlushFlocksModel", "images", "[I", true)
  | 9 => ("PlushFlocksModel", "kept", "[Z", true)
  | 10 => ("PlushFlocksModel", "notes", "[I", true)
  | 11 => ("PlushFlocksModel", "noted", "I", false)
  | 12 => ("PlushFlocksModel", "at", "I", false)
  | 13 => ("PlushFlocksModel", "sort", "I", false)
  | 14 => ("PlushFlocksModel", "start", "I", false)
  | 15 => ("PlushFlocksModel", "value", "I", false)
  | 16 => ("PlushFlocksModel", "aside", "[I", true)
  | 17 => ("PlushFlocksModel", "near", "[J", true)
  | _ => ("PlushFlocksModel", "nearer", "[J", true)
def tyX7 : Nat → FieldType := fun k => match k with
  | 0 => .long
  | 1 => .array .int
  | 2 => .int
  | 3 => .array .int
  | 4 => .array .int
  | 5 => .array .int
  | 6 => .array .int
  | 7 => .int
  | 8 => .array .int
  | 9 => .array .boolean
  | 10 => .array .int
  | 11 => .int
  | 12 => .int
  | 13 => .int
  | 14 => .int
  | 15 => .int
  | 16 => .array .int
  | 17 => .array .long
  | _ => .array .long
abbrev wsX70 : List Cond := u_ws RX7 TX7 19
theorem nmX7 : ∀ a, a < 19 → ∀ b, b < 19 → a ≠ b → (TX7 a).2.1 ≠ (TX7 b).2.1 := by decide +kernel
theorem tyX7_ok : ∀ k, k < 19 → parseFieldDescriptor (TX7 k).2.2.1 = some (tyX7 k) := by decide +kernel
abbrev cX7_init : ByteArray := prog_9_method_1_code
def yX7_init : MethodName := ⟨RX7, "<init>", "()V"⟩
abbrev cX7_in : ByteArray := prog_9_method_3_code
def yX7_in : MethodName := ⟨RX7, "in", "(III)Z"⟩
abbrev cX7_has : ByteArray := prog_9_method_4_code
def yX7_has : MethodName := ⟨RX7, "has", "(II)Z"⟩
abbrev cX7_ones : ByteArray := prog_9_method_5_code
def yX7_ones : MethodName := ⟨RX7, "ones", "(I)I"⟩
abbrev cX7_isRoom : ByteArray := prog_9_method_6_code
def yX7_isRoom : MethodName := ⟨RX7, "isRoom", "(I)Z"⟩
abbrev cX7_isFlock : ByteArray := prog_9_method_7_code
def yX7_isFlock : MethodName := ⟨RX7, "isFlock", "(I)Z"⟩
abbrev cX7_type : ByteArray := prog_9_method_8_code
def yX7_type : MethodName := ⟨RX7, "type", "(I)I"⟩
abbrev cX7_clear : ByteArray := prog_9_method_9_code
def yX7_clear : MethodName := ⟨RX7, "clear", "()I"⟩
abbrev cX7_letterAt : ByteArray := prog_9_method_10_code
def yX7_letterAt : MethodName := ⟨RX7, "letterAt", "(I)I"⟩
abbrev cX7_isDigit : ByteArray := prog_9_method_11_code
def yX7_isDigit : MethodName := ⟨RX7, "isDigit", "(I)Z"⟩
abbrev cX7_isWord : ByteArray := prog_9_method_12_code
def yX7_isWord : MethodName := ⟨RX7, "isWord", "(I)Z"⟩
abbrev cX7_token : ByteArray := prog_9_method_13_code
def yX7_token : MethodName := ⟨RX7, "token", "()V"⟩
abbrev cX7_isNumber : ByteArray := prog_9_method_14_code
def yX7_isNumber : MethodName := ⟨RX7, "isNumber", "(II)Z"⟩
abbrev cX7_number : ByteArray := prog_9_method_15_code
def yX7_number : MethodName := ⟨RX7, "number", "(III)Z"⟩
abbrev cX7_readsDoor : ByteArray := prog_9_method_16_code
def yX7_readsDoor : MethodName := ⟨RX7, "readsDoor", "()Z"⟩
abbrev cX7_readsItem : ByteArray := prog_9_method_17_code
def yX7_readsItem : MethodName := ⟨RX7, "readsItem", "()Z"⟩
abbrev cX7_reads : ByteArray := prog_9_method_18_code
def yX7_reads : MethodName := ⟨RX7, "reads", "()Z"⟩
abbrev cX7_begins : ByteArray := prog_9_method_19_code
def yX7_begins : MethodName := ⟨RX7, "begins", "()V"⟩
abbrev cX7_house : ByteArray := prog_9_method_20_code
def yX7_house : MethodName := ⟨RX7, "house", "()I"⟩
abbrev cX7_inRoom : ByteArray := prog_9_method_21_code
def yX7_inRoom : MethodName := ⟨RX7, "inRoom", "(I)I"⟩
abbrev cX7_beyond : ByteArray := prog_9_method_22_code
def yX7_beyond : MethodName := ⟨RX7, "beyond", "(IZ)I"⟩
abbrev cX7_steps : ByteArray := prog_9_method_23_code
def yX7_steps : MethodName := ⟨RX7, "steps", "()I"⟩
abbrev cX7_holds : ByteArray := prog_9_method_24_code
def yX7_holds : MethodName := ⟨RX7, "holds", "()V"⟩
abbrev cX7_lets : ByteArray := prog_9_method_25_code
def yX7_lets : MethodName := ⟨RX7, "lets", "()V"⟩
abbrev cX7_bare : ByteArray := prog_9_method_26_code
def yX7_bare : MethodName := ⟨RX7, "bare", "(I)I"⟩
abbrev cX7_room : ByteArray := prog_9_method_27_code
def yX7_room : MethodName := ⟨RX7, "room", "(II)I"⟩
abbrev cX7_flock : ByteArray := prog_9_method_28_code
def yX7_flock : MethodName := ⟨RX7, "flock", "(II)I"⟩
abbrev cX7_strays : ByteArray := prog_9_method_29_code
def yX7_strays : MethodName := ⟨RX7, "strays", "()I"⟩
abbrev cX7_now : ByteArray := prog_9_method_30_code
def yX7_now : MethodName := ⟨RX7, "now", "(I)I"⟩
abbrev cX7_keeps : ByteArray := prog_9_method_31_code
def yX7_keeps : MethodName := ⟨RX7, "keeps", "()V"⟩
abbrev cX7_step : ByteArray := prog_9_method_32_code
def yX7_step : MethodName := ⟨RX7, "step", "()I"⟩
abbrev cX7_mayDrive : ByteArray := prog_9_method_33_code
def yX7_mayDrive : MethodName := ⟨RX7, "mayDrive", "(II)Z"⟩
abbrev cX7_drives : ByteArray := prog_9_method_34_code
def yX7_drives : MethodName := ⟨RX7, "drives", "(II)I"⟩
abbrev cX7_puts : ByteArray := prog_9_method_35_code
def yX7_puts : MethodName := ⟨RX7, "puts", "(I)I"⟩
abbrev cX7_calls : ByteArray := prog_9_method_36_code
def yX7_calls : MethodName := ⟨RX7, "calls", "(I)I"⟩
abbrev cX7_dawn : ByteArray := prog_9_method_37_code
def yX7_dawn : MethodName := ⟨RX7, "dawn", "()I"⟩
abbrev cX7_undo : ByteArray := prog_9_method_38_code
def yX7_undo : MethodName := ⟨RX7, "undo", "()I"⟩
abbrev cX7_codeNow : ByteArray := prog_9_method_39_code
def yX7_codeNow : MethodName := ⟨RX7, "codeNow", "()I"⟩
abbrev cX7_places : ByteArray := prog_9_method_40_code
def yX7_places : MethodName := ⟨RX7, "places", "(I)V"⟩
abbrev cX7_isIn : ByteArray := prog_9_method_41_code
def yX7_isIn : MethodName := ⟨RX7, "isIn", "([JI)Z"⟩
abbrev cX7_firstDrive : ByteArray := prog_9_method_42_code
def yX7_firstDrive : MethodName := ⟨RX7, "firstDrive", "()I"⟩
abbrev cX7_back : ByteArray := prog_9_method_43_code
def yX7_back : MethodName := ⟨RX7, "back", "(I)I"⟩
abbrev cX7_homing : ByteArray := prog_9_method_44_code
def yX7_homing : MethodName := ⟨RX7, "homing", "()I"⟩
abbrev cX7_apart : ByteArray := prog_9_method_45_code
def yX7_apart : MethodName := ⟨RX7, "apart", "(I)I"⟩
abbrev cX7_odds : ByteArray := prog_9_method_46_code
def yX7_odds : MethodName := ⟨RX7, "odds", "(III)I"⟩
abbrev cX7_tells : ByteArray := prog_9_method_47_code
def yX7_tells : MethodName := ⟨RX7, "tells", "(II)I"⟩
abbrev cX7_forget : ByteArray := prog_9_method_48_code
def yX7_forget : MethodName := ⟨RX7, "forget", "()I"⟩
abbrev cX7_isSo : ByteArray := prog_9_method_49_code
def yX7_isSo : MethodName := ⟨RX7, "isSo", "(I)Z"⟩
abbrev cX7_manyWith : ByteArray := prog_9_method_50_code
def yX7_manyWith : MethodName := ⟨RX7, "manyWith", "(I)I"⟩
abbrev cX7_can : ByteArray := prog_9_method_51_code
def yX7_can : MethodName := ⟨RX7, "can", "(I)I"⟩
abbrev cX7_ask : ByteArray := prog_9_method_52_code
def yX7_ask : MethodName := ⟨RX7, "ask", "()I"⟩
abbrev cX7_rate : ByteArray := prog_9_method_53_code
def yX7_rate : MethodName := ⟨RX7, "rate", "(II)I"⟩
abbrev cX7_keep : ByteArray := prog_9_method_54_code
def yX7_keep : MethodName := ⟨RX7, "keep", "(I)I"⟩
abbrev cX7_again : ByteArray := prog_9_method_55_code
def yX7_again : MethodName := ⟨RX7, "again", "(I)I"⟩
abbrev cX7_count : ByteArray := prog_9_method_56_code
def yX7_count : MethodName := ⟨RX7, "count", "(I)I"⟩
abbrev cX7_trace : ByteArray := prog_9_method_57_code
def yX7_trace : MethodName := ⟨RX7, "trace", "()J"⟩
def RJ6 : String := "java/lang/Integer"
def TJ6 : u_T := fun k => match k with
  | _ => ("", "", "", false)
def tyJ6 : Nat → FieldType := fun k => match k with
  | _ => .int
abbrev wsJ60 : List Cond := u_ws RJ6 TJ6 0
theorem nmJ6 : ∀ a, a < 0 → ∀ b, b < 0 → a ≠ b → (TJ6 a).2.1 ≠ (TJ6 b).2.1 := by decide +kernel
theorem tyJ6_ok : ∀ k, k < 0 → parseFieldDescriptor (TJ6 k).2.2.1 = some (tyJ6 k) := by decide +kernel
abbrev cJ6_bitCount_0f7a4 : ByteArray := prog_10_method_49_code
def yJ6_bitCount_0f7a4 : MethodName := ⟨RJ6, "bitCount", "(I)I"⟩
def RJ9 : String := "java/lang/Math"
def TJ9 : u_T := fun k => match k with
  | _ => ("", "", "", false)
def tyJ9 : Nat → FieldType := fun k => match k with
  | _ => .int
abbrev wsJ90 : List Cond := u_ws RJ9 TJ9 0
theorem nmJ9 : ∀ a, a < 0 → ∀ b, b < 0 → a ≠ b → (TJ9 a).2.1 ≠ (TJ9 b).2.1 := by decide +kernel
theorem tyJ9_ok : ∀ k, k < 0 → parseFieldDescriptor (TJ9 k).2.2.1 = some (tyJ9 k) := by decide +kernel
abbrev cJ9_max_7cf53 : ByteArray := prog_11_method_65_code
def yJ9_max_7cf53 : MethodName := ⟨RJ9, "max", "(II)I"⟩
abbrev cJ9_min_7cf53 : ByteArray := prog_11_method_69_code
def yJ9_min_7cf53 : MethodName := ⟨RJ9, "min", "(II)I"⟩
def RJ7 : String := "java/util/Arrays"
def TJ7 : u_T := fun k => match k with
  | _ => ("", "", "", false)
def tyJ7 : Nat → FieldType := fun k => match k with
  | _ => .int
abbrev wsJ70 : List Cond := u_ws RJ7 TJ7 0
theorem nmJ7 : ∀ a, a < 0 → ∀ b, b < 0 → a ≠ b → (TJ7 a).2.1 ≠ (TJ7 b).2.1 := by decide +kernel
theorem tyJ7_ok : ∀ k, k < 0 → parseFieldDescriptor (TJ7 k).2.2.1 = some (tyJ7 k) := by decide +kernel
abbrev cJ7_fill_d0a16 : ByteArray := prog_12_method_101_code
def yJ7_fill_d0a16 : MethodName := ⟨RJ7, "fill", "([JJ)V"⟩
def RL : String := "PlushFlocksLaw"
abbrev cL_law : ByteArray := code
def yL_law : MethodName := ⟨RL, "law", "([I)Z"⟩
theorem inJ6 : ∀ w ∈ wsJ60, w ∈ lw_tbl := by decide +kernel
theorem inJ9 : ∀ w ∈ wsJ90, w ∈ lw_tbl := by decide +kernel
theorem inJ7 : ∀ w ∈ wsJ70, w ∈ lw_tbl := by decide +kernel
abbrev vwCl : List vw_C := [(RX0, TX0, 6), (RX1, TX1, 7), (RX2, TX2, 3), (RX3, TX3, 10), (RX4, TX4, 9), (RX5, TX5, 5), (RX6, TX6, 11), (RX7, TX7, 19)]
end
section
/-! ===== A PURE MACHINE: the instructions that the claim's classes use, over a heap that is a function; no frames, no warming, no tables. ===== -/
abbrev qE : Type := (Nat × List Value) ⊕ (Nat × vp_A)
abbrev qH : Type := (Nat → Option qE) × Nat × Nat
abbrev qL : Type := List (Nat × Value)
abbrev qR : Type := Option Value × qH
abbrev qI : Type := Instr × Nat × Option (List Nat) × List Nat × Value × List (Int32 × Nat)
abbrev qM : Type := (MethodName × ByteArray × Nat × Option FieldType) × (String × Nat × Nat) × List Nat × List (Nat × qI)
abbrev qC : Type := Nat → List Value → qH → Option qR
def q_ob {β α : Type} (o : Option β) (d : α) (f : β → α) : α := match o with
  | none => d
  | some x => f x
def q_bt {α : Type} (b : Bool) (x y : α) : α := match b with
  | true => x
  | false => y
def q_int (v : Value) : Option Int32 := match v with
  | .int x => some x
  | _ => none
def q_long (v : Value) : Option Int64 := match v with
  | .long x => some x
  | _ => none
def q_ref (v : Value) : Option Nat := match v with
  | .ref x => some x
  | _ => none
def q_rn (v : Value) : Option Value := match v with
  | .ref x => some (.ref x)
  | .null => some .null
  | _ => none
-- the locals
def q_rdI (L : qL) (i : Nat) : Option Int32 := match L.lookup i with
  | some v => q_int v
  | none => none
def q_rdL (L : qL) (i : Nat) : Option Int64 := match L.lookup i with
  | some v => q_long v
  | none => none
def q_rdA (L : qL) (i : Nat) : Option Value := match L.lookup i with
  | some v => q_rn v
  | none => none
def q_st1 (L : qL) (i : Nat) (v : Value) : qL := (i, v) :: L.filter (fun q => !(q.1 == i) && !(q.1 + 1 == i && q.2.category == 2))
def q_st2 (L : qL) (i : Nat) (v : Value) : qL := (i, v) :: L.filter (fun q => !(q.1 == i) && (!(q.1 == i + 1) && !(q.1 + 1 == i && q.2.category == 2)))
def q_pick (L : qL) : List Nat → qL
  | [] => []
  | i :: r => match L.lookup i with
    | some v => (i, v) :: q_pick L r
    | none => q_pick L r
def q_keep (o : Option (List Nat)) (L : qL) : qL := match o with
  | none => L
  | some ks => q_pick L ks
-- the heap
def q_upd (σ : qH) (a : Nat) (e : qE) : qH := (fun b => if b = a then some e else σ.1 b, σ.2)
def q_new (σ : qH) (e : qE) (n : Nat) : qH := (fun b => if b = σ.2.1 then some e else σ.1 b, σ.2.1 + 1, σ.2.2 + n)
def q_obj (σ : qH) (v : Value) (ci : Nat) : Option (List Value) := match v with
  | .ref a => (match σ.1 a with
    | some (.inl (c, fs)) => if c = ci then some fs else none
    | _ => none)
  | _ => none
def q_fld (σ : qH) (v : Value) (ci j : Nat) : Option Value := match q_obj σ v ci with
  | some fs => fs[j]?
  | none => none
def q_getI (σ : qH) (v : Value) (ci j : Nat) : Option Int32 := match q_fld σ v ci j with
  | some x => q_int x
  | none => none
def q_getL (σ : qH) (v : Value) (ci j : Nat) : Option Int64 := match q_fld σ v ci j with
  | some x => q_long x
  | none => none
def q_getR (σ : qH) (v : Value) (ci j : Nat) : Option Nat := match q_fld σ v ci j with
  | some x => q_ref x
  | none => none
/-- a field's type by a number: 0 int, 1 long, 2 a reference, 3 char, 4 boolean -/
def q_okv (t : Nat) (v : Value) : Bool := match t with
  | 0 => (match v with
    | .int _ => true
    | _ => false)
  | 1 => (match v with
    | .long _ => true
    | _ => false)
  | 2 => (match v with
    | .ref _ => true
    | .null => true
    | _ => false)
  | 3 => decide (narrow .char v = v) && fits .char v
  | _ => decide (narrow .boolean v = v) && fits .boolean v
def q_put (σ : qH) (v : Value) (ci j t : Nat) (x : Value) : Option qH := match v with
  | .ref a => (match σ.1 a with
    | some (.inl (c, fs)) => if c = ci ∧ j < fs.length ∧ q_okv t x = true then some (q_upd σ a (.inl (c, fs.set j x))) else none
    | _ => none)
  | _ => none
def q_arr (σ : qH) (v : Value) (k : Nat) : Option vp_A := match v with
  | .ref a => (match σ.1 a with
    | some (.inr (c, x)) => if c = k then some x else none
    | _ => none)
  | _ => none
def q_aldI (σ : qH) (v : Value) (k : Nat) (i : Int32) : Option Int32 := match q_arr σ v k with
  | some (n, .inl f) => if i < 0 ∨ n ≤ i.toNatClampNeg then none else some (f i.toNatClampNeg)
  | _ => none
def q_aldL (σ : qH) (v : Value) (i : Int32) : Option Int64 := match q_arr σ v 2 with
  | some (n, .inr (.inl f)) => if i < 0 ∨ n ≤ i.toNatClampNeg then none else some (f i.toNatClampNeg)
  | _ => none
def q_aldR (σ : qH) (v : Value) (i : Int32) : Option Nat := match q_arr σ v 4 with
  | some (n, .inr (.inr (.inr (.inr f)))) => if i < 0 ∨ n ≤ i.toNatClampNeg then none else f i.toNatClampNeg
  | _ => none
def q_astI (σ : qH) (v : Value) (k : Nat) (i x : Int32) : Option qH := match v with
  | .ref a => (match q_arr σ v k with
    | some (n, .inl f) => if i < 0 ∨ n ≤ i.toNatClampNeg then none else some (q_upd σ a (.inr (k, (n, .inl (upd f i.toNatClampNeg x)))))
    | _ => none)
  | _ => none
def q_astL (σ : qH) (v : Value) (i : Int32) (x : Int64) : Option qH := match v with
  | .ref a => (match q_arr σ v 2 with
    | some (n, .inr (.inl f)) => if i < 0 ∨ n ≤ i.toNatClampNeg then none else some (q_upd σ a (.inr (2, (n, .inr (.inl (vp_updL f i.toNatClampNeg x))))))
    | _ => none)
  | _ => none
def q_astR (σ : qH) (v : Value) (i : Int32) (x : Nat) : Option qH := match v with
  | .ref a => (match q_arr σ v 4 with
    | some (n, .inr (.inr (.inr (.inr f)))) => if (i < 0 ∨ n ≤ i.toNatClampNeg) ∨ q_obj σ (.ref x) 0 = none then none else some (q_upd σ a (.inr (4, (n, .inr (.inr (.inr (.inr (va_up f i.toNatClampNeg (some x)))))))))
    | _ => none)
  | _ => none
def q_alen (σ : qH) (v : Value) (k : Nat) : Option Int32 := match q_arr σ v k with
  | some x => some (Int32.ofNat x.1)
  | none => none
/-- a new array's kind: 0 char, 1 int, 2 long, 3 boolean, 4 Evening -/
def q_zero (k n : Nat) : vp_A := match k with
  | 2 => (n, .inr (.inl (fun _ => 0)))
  | 4 => (n, .inr (.inr (.inr (.inr (fun _ => none)))))
  | _ => (n, .inl (fun _ => 0))
def q_newa (σ : qH) (k : Nat) (n : Int32) : Option qH := if n < 0 ∨ 60000 < n.toNatClampNeg then none else some (q_new σ (.inr (k, q_zero k n.toNatClampNeg)) n.toNatClampNeg)
def q_dfl (ci : Nat) : List Value := match ci with
  | 0 => [.int 0, .long 0, .long 0, .long 0, .int 0, .int 0]
  | 1 => [.long 0, .long 0, .long 0, .int 0, .int 0, .int 0, .int 0]
  | 2 => [.null, .int 0, .int 0]
  | 3 => [.int 0, .int 0, .int 0, .int 0, .long 0, .long 0, .long 0, .int 0, .long 0, .long 0]
  | 4 => [.null, .int 0, .int 0, .int 0, .int 0, .int 0, .int 0, .int 0, .null]
  | 5 => [.null, .null, .int 0, .int 0, .int 0]
  | 6 => [.null, .int 0, .null, .null, .null, .null, .null, .int 0, .null, .null, .long 0]
  | _ => [.long 0, .null, .int 0, .null, .null, .null, .null, .int 0, .null, .null, .null, .int 0, .int 0, .int 0, .int 0, .int 0, .null, .null, .null]
-- calls: the outcome by the kind of the answer
def q_cV (o : Option qR) : Option qH := match o with
  | some (none, σ) => some σ
  | _ => none
def q_cI (o : Option qR) : Option (Int32 × qH) := match o with
  | some (some (.int x), σ) => some (x, σ)
  | _ => none
def q_cL (o : Option qR) : Option (Int64 × qH) := match o with
  | some (some (.long x), σ) => some (x, σ)
  | _ => none
def q_cR (o : Option qR) : Option (Option Nat × qH) := match o with
  | some (some (.ref x), σ) => some (some x, σ)
  | some (some .null, σ) => some (none, σ)
  | _ => none
def q_sw {α : Type} (K : Nat → α) (x : Int32) (d : Nat) : List (Int32 × Nat) → α
  | [] => K d
  | p :: r => if x = p.1 then K p.2 else q_sw K x d r
def q_inv {α : Type} (k : Nat) (call : qC) (fl : α) (K : Nat → qL → List Value → qH → α) (nx : Nat) (ax : List Nat) (L : qL) (st : List Value) (σ : qH) : α :=
  q_bt (Nat.blt (ax.getD 0 0) k && Nat.ble (ax.getD 1 0) st.length && Nat.ble (st.drop (ax.getD 1 0)).length 4) (
    match ax.getD 2 0 with
    | 0 => q_ob (q_cV (call (ax.getD 0 0) (st.take (ax.getD 1 0)).reverse σ)) fl fun s => K nx L (st.drop (ax.getD 1 0)) s
    | 1 => q_ob (q_cI (call (ax.getD 0 0) (st.take (ax.getD 1 0)).reverse σ)) fl fun p => K nx L (.int p.1 :: st.drop (ax.getD 1 0)) p.2
    | 2 => q_ob (q_cL (call (ax.getD 0 0) (st.take (ax.getD 1 0)).reverse σ)) fl fun p => K nx L (.long p.1 :: st.drop (ax.getD 1 0)) p.2
    | _ => q_ob (q_cR (call (ax.getD 0 0) (st.take (ax.getD 1 0)).reverse σ)) fl fun p => match p.1 with
      | some a => K nx L (.ref a :: st.drop (ax.getD 1 0)) p.2
      | none => K nx L (.null :: st.drop (ax.getD 1 0)) p.2) fl
def q_min (x y : Int32) : Int32 := if y < x then y else x
def q_max (x y : Int32) : Int32 := if x < y then y else x
/-- one instruction: what it does with the rest K -/
def q_G {α : Type} (k : Nat) (call : qC) (fl : α) (rt : qR → α) (K : Nat → qL → List Value → qH → α) (ins : Instr) (nx : Nat) (ax : List Nat) (cv : Value) (sw : List (Int32 × Nat)) (L : qL) (st : List Value) (σ : qH) : α :=
  match ins with
  | .iconst _ => K nx L (cv :: st) σ
  | .bipush _ => K nx L (cv :: st) σ
  | .sipush _ => K nx L (cv :: st) σ
  | .ldc _ => K nx L (cv :: st) σ
  | .ldc_w _ => K nx L (cv :: st) σ
  | .lconst _ => K nx L (cv :: st) σ
  | .ldc2_w _ => K nx L (cv :: st) σ
  | .aconst_null => K nx L (.null :: st) σ
  | .iload _ => q_ob (q_rdI L (ax.getD 0 0)) fl fun x => K nx L (.int x :: st) σ
  | .iload_n _ => q_ob (q_rdI L (ax.getD 0 0)) fl fun x => K nx L (.int x :: st) σ
  | .lload _ => q_ob (q_rdL L (ax.getD 0 0)) fl fun x => K nx L (.long x :: st) σ
  | .lload_n _ => q_ob (q_rdL L (ax.getD 0 0)) fl fun x => K nx L (.long x :: st) σ
  | .aload _ => q_ob (q_rdA L (ax.getD 0 0)) fl fun x => K nx L (x :: st) σ
  | .aload_n _ => q_ob (q_rdA L (ax.getD 0 0)) fl fun x => K nx L (x :: st) σ
  | .istore _ => (match st with
    | .int x :: r => K nx (q_st1 L (ax.getD 0 0) (.int x)) r σ
    | _ => fl)
  | .istore_n _ => (match st with
    | .int x :: r => K nx (q_st1 L (ax.getD 0 0) (.int x)) r σ
    | _ => fl)
  | .lstore _ => (match st with
    | .long x :: r => K nx (q_st2 L (ax.getD 0 0) (.long x)) r σ
    | _ => fl)
  | .lstore_n _ => (match st with
    | .long x :: r => K nx (q_st2 L (ax.getD 0 0) (.long x)) r σ
    | _ => fl)
  | .astore _ => (match st with
    | .ref x :: r => K nx (q_st1 L (ax.getD 0 0) (.ref x)) r σ
    | .null :: r => K nx (q_st1 L (ax.getD 0 0) .null) r σ
    | _ => fl)
  | .astore_n _ => (match st with
    | .ref x :: r => K nx (q_st1 L (ax.getD 0 0) (.ref x)) r σ
    | .null :: r => K nx (q_st1 L (ax.getD 0 0) .null) r σ
    | _ => fl)
  | .iinc _ _ => q_ob (q_rdI L (ax.getD 0 0)) fl fun x => (match cv with
    | .int c => K nx (q_st1 L (ax.getD 0 0) (.int (x + c))) st σ
    | _ => fl)
  | .iadd => (match st with
    | .int y :: .int x :: r => K nx L (.int (x + y) :: r) σ
    | _ => fl)
  | .isub => (match st with
    | .int y :: .int x :: r => K nx L (.int (x - y) :: r) σ
    | _ => fl)
  | .imul => (match st with
    | .int y :: .int x :: r => K nx L (.int (x * y) :: r) σ
    | _ => fl)
  | .iand => (match st with
    | .int y :: .int x :: r => K nx L (.int (x &&& y) :: r) σ
    | _ => fl)
  | .ior => (match st with
    | .int y :: .int x :: r => K nx L (.int (x ||| y) :: r) σ
    | _ => fl)
  | .ixor => (match st with
    | .int y :: .int x :: r => K nx L (.int (x ^^^ y) :: r) σ
    | _ => fl)
  | .idiv => (match st with
    | .int y :: .int x :: r => if y = 0 then fl else K nx L (.int (x / y) :: r) σ
    | _ => fl)
  | .irem => (match st with
    | .int y :: .int x :: r => if y = 0 then fl else K nx L (.int (x - x / y * y) :: r) σ
    | _ => fl)
  | .ishl => (match st with
    | .int y :: .int x :: r => K nx L (.int (x <<< (y &&& 31)) :: r) σ
    | _ => fl)
  | .ishr => (match st with
    | .int y :: .int x :: r => K nx L (.int (x >>> (y &&& 31)) :: r) σ
    | _ => fl)
  | .iushr => (match st with
    | .int y :: .int x :: r => K nx L (.int (x.toUInt32 >>> (y.toUInt32 &&& Int32.toUInt32 31)).toInt32 :: r) σ
    | _ => fl)
  | .ladd => (match st with
    | .long y :: .long x :: r => K nx L (.long (x + y) :: r) σ
    | _ => fl)
  | .land => (match st with
    | .long y :: .long x :: r => K nx L (.long (x &&& y) :: r) σ
    | _ => fl)
  | .lor => (match st with
    | .long y :: .long x :: r => K nx L (.long (x ||| y) :: r) σ
    | _ => fl)
  | .lxor => (match st with
    | .long y :: .long x :: r => K nx L (.long (x ^^^ y) :: r) σ
    | _ => fl)
  | .lushr => (match st with
    | .int y :: .long x :: r => K nx L (.long (x.toUInt64 >>> (y.toInt64.toUInt64 &&& Int64.toUInt64 63)).toInt64 :: r) σ
    | _ => fl)
  | .lshl => (match st with
    | .int y :: .long x :: r => K nx L (.long (x <<< (y.toInt64 &&& 63)) :: r) σ
    | _ => fl)
  | .lshr => (match st with
    | .int y :: .long x :: r => K nx L (.long (x >>> (y.toInt64 &&& 63)) :: r) σ
    | _ => fl)
  | .lcmp => (match st with
    | .long y :: .long x :: r => K nx L (.int (lg_cmp x y) :: r) σ
    | _ => fl)
  | .i2l => (match st with
    | .int x :: r => K nx L (.long x.toInt64 :: r) σ
    | _ => fl)
  | .l2i => (match st with
    | .long x :: r => K nx L (.int x.toInt32 :: r) σ
    | _ => fl)
  | .i2c => (match st with
    | .int x :: r => K nx L (.int (x.toUInt32 % 65536).toInt32 :: r) σ
    | _ => fl)
  | .pop => (match st with
    | .int _ :: r => K nx L r σ
    | _ => fl)
  | .dup => (match st with
    | .int x :: r => K nx L (.int x :: .int x :: r) σ
    | .ref x :: r => K nx L (.ref x :: .ref x :: r) σ
    | _ => fl)
  | .dup2 => (match st with
    | .long x :: r => K nx L (.long x :: .long x :: r) σ
    | .int y :: .ref x :: r => K nx L (.int y :: .ref x :: .int y :: .ref x :: r) σ
    | _ => fl)
  | .goto _ => K (ax.getD 0 0) L st σ
  | .if_icmp c _ => (match st with
    | .int y :: .int x :: r => (match c with
      | .eq => if x = y then K (ax.getD 0 0) L r σ else K nx L r σ
      | .ne => if x = y then K nx L r σ else K (ax.getD 0 0) L r σ
      | .lt => if x < y then K (ax.getD 0 0) L r σ else K nx L r σ
      | .ge => if y ≤ x then K (ax.getD 0 0) L r σ else K nx L r σ
      | .gt => if y < x then K (ax.getD 0 0) L r σ else K nx L r σ
      | .le => if x ≤ y then K (ax.getD 0 0) L r σ else K nx L r σ)
    | _ => fl)
  | .ifCond c _ => (match st with
    | .int x :: r => (match c with
      | .eq => if x = 0 then K (ax.getD 0 0) L r σ else K nx L r σ
      | .ne => if x = 0 then K nx L r σ else K (ax.getD 0 0) L r σ
      | .lt => if x < 0 then K (ax.getD 0 0) L r σ else K nx L r σ
      | .ge => if 0 ≤ x then K (ax.getD 0 0) L r σ else K nx L r σ
      | .gt => if 0 < x then K (ax.getD 0 0) L r σ else K nx L r σ
      | .le => if x ≤ 0 then K (ax.getD 0 0) L r σ else K nx L r σ)
    | _ => fl)
  | .ifnull _ => (match st with
    | .ref _ :: r => K nx L r σ
    | .null :: r => K (ax.getD 0 0) L r σ
    | _ => fl)
  | .ifnonnull _ => (match st with
    | .ref _ :: r => K (ax.getD 0 0) L r σ
    | .null :: r => K nx L r σ
    | _ => fl)
  | .tableswitch _ _ _ _ => (match st with
    | .int x :: r => q_sw (fun p => K p L r σ) x (ax.getD 0 0) sw
    | _ => fl)
  | .lookupswitch _ _ => (match st with
    | .int x :: r => q_sw (fun p => K p L r σ) x (ax.getD 0 0) sw
    | _ => fl)
  | .getfield _ => (match st with
    | v :: r => (match ax.getD 2 0 with
      | 0 => q_ob (q_getI σ v (ax.getD 0 0) (ax.getD 1 0)) fl fun x => K nx L (.int x :: r) σ
      | 1 => q_ob (q_getL σ v (ax.getD 0 0) (ax.getD 1 0)) fl fun x => K nx L (.long x :: r) σ
      | _ => q_ob (q_getR σ v (ax.getD 0 0) (ax.getD 1 0)) fl fun x => K nx L (.ref x :: r) σ)
    | _ => fl)
  | .putfield _ => (match st with
    | x :: v :: r => q_ob (q_put σ v (ax.getD 0 0) (ax.getD 1 0) (ax.getD 2 0) x) fl fun s => K nx L r s
    | _ => fl)
  | .iaload => (match st with
    | .int i :: v :: r => q_ob (q_aldI σ v (ax.getD 0 0) i) fl fun x => K nx L (.int x :: r) σ
    | _ => fl)
  | .caload => (match st with
    | .int i :: v :: r => q_ob (q_aldI σ v 0 i) fl fun x => K nx L (.int x :: r) σ
    | _ => fl)
  | .baload => (match st with
    | .int i :: v :: r => q_ob (q_aldI σ v 3 i) fl fun x => K nx L (.int x :: r) σ
    | _ => fl)
  | .laload => (match st with
    | .int i :: v :: r => q_ob (q_aldL σ v i) fl fun x => K nx L (.long x :: r) σ
    | _ => fl)
  | .aaload => (match st with
    | .int i :: v :: r => q_ob (q_aldR σ v i) fl fun x => K nx L (.ref x :: r) σ
    | _ => fl)
  | .iastore => (match st with
    | .int x :: .int i :: v :: r => q_ob (q_astI σ v 1 i x) fl fun s => K nx L r s
    | _ => fl)
  | .castore => (match st with
    | .int x :: .int i :: v :: r => q_ob (q_astI σ v 0 i (vp_nar .char x)) fl fun s => K nx L r s
    | _ => fl)
  | .bastore => (match st with
    | .int x :: .int i :: v :: r => q_ob (q_astI σ v 3 i (vp_nar .boolean x)) fl fun s => K nx L r s
    | _ => fl)
  | .lastore => (match st with
    | .long x :: .int i :: v :: r => q_ob (q_astL σ v i x) fl fun s => K nx L r s
    | _ => fl)
  | .aastore => (match st with
    | .ref x :: .int i :: v :: r => q_ob (q_astR σ v i x) fl fun s => K nx L r s
    | _ => fl)
  | .arraylength => (match st with
    | v :: r => q_ob (q_alen σ v (ax.getD 0 0)) fl fun x => K nx L (.int x :: r) σ
    | _ => fl)
  | .new _ => K nx L (.ref σ.2.1 :: st) (q_new σ (.inl (ax.getD 0 0, q_dfl (ax.getD 0 0))) (ax.getD 1 0))
  | .newarray _ => (match st with
    | .int n :: r => q_ob (q_newa σ (ax.getD 0 0) n) fl fun s => K nx L (.ref σ.2.1 :: r) s
    | _ => fl)
  | .anewarray _ => (match st with
    | .int n :: r => q_ob (q_newa σ 4 n) fl fun s => K nx L (.ref σ.2.1 :: r) s
    | _ => fl)
  | .invokevirtual _ => q_inv k call fl K nx ax L st σ
  | .invokestatic _ => q_bt (Nat.beq (ax.getD 0 0) 997) (match st with
      | .int y :: .int x :: r => q_bt (Nat.ble r.length 4) (K nx L (.int (q_min x y) :: r) σ) fl
      | _ => fl) (q_bt (Nat.beq (ax.getD 0 0) 996) (match st with
      | .int y :: .int x :: r => q_bt (Nat.ble r.length 4) (K nx L (.int (q_max x y) :: r) σ) fl
      | _ => fl) (q_inv k call fl K nx ax L st σ))
  | .invokespecial _ => q_bt (Nat.beq (ax.getD 0 0) 999) (match st with
      | .ref _ :: r => q_bt (Nat.ble r.length 4) (K nx L r σ) fl
      | _ => fl) (q_inv k call fl K nx ax L st σ)
  | .ireturn => (match st with
    | [.int x] => q_bt (q_okv (ax.getD 0 0) (.int x)) (rt (some (.int x), σ)) fl
    | _ => fl)
  | .lreturn => (match st with
    | [.long x] => rt (some (.long x), σ)
    | _ => fl)
  | .areturn => (match st with
    | [.ref x] => rt (some (.ref x), σ)
    | [.null] => rt (some .null, σ)
    | _ => fl)
  | .return_ => (match st with
    | [] => rt (none, σ)
    | _ => fl)
  | _ => fl
/-- one step of method number k, with the rows 'cd' -/
def q_F {α : Type} (k : Nat) (cd : List (Nat × qI)) (call : qC) (fl : α) (rt : qR → α) (K : Nat → qL → List Value → qH → α) (pc : Nat) (L : qL) (st : List Value) (σ : qH) : α :=
  match cd.lookup pc with
  | none => fl
  | some e => q_G k call fl rt K e.1 e.2.1 e.2.2.2.1 e.2.2.2.2.1 e.2.2.2.2.2 (q_keep e.2.2.1 L) st σ
-- what a step does, told without its rest
abbrev qT : Type := Option (qR ⊕ (Nat × qL × List Value × qH))
def q_join {α : Type} (fl : α) (rt : qR → α) (K : Nat → qL → List Value → qH → α) (t : qT) : α := match t with
  | none => fl
  | some (.inl r) => rt r
  | some (.inr s) => K s.1 s.2.1 s.2.2.1 s.2.2.2
def q_K : Nat → qL → List Value → qH → qT := fun p L st σ => some (.inr (p, L, st, σ))
def q_step (k : Nat) (cd : List (Nat × qI)) (call : qC) (pc : Nat) (L : qL) (st : List Value) (σ : qH) : qT := q_F k cd call none (fun r => some (.inl r)) q_K pc L st σ
theorem q_ob_join {β α : Type} (fl : α) (rt : qR → α) (K : Nat → qL → List Value → qH → α) (o : Option β) (f : β → qT) : q_join fl rt K (q_ob o none f) = q_ob o fl (fun x => q_join fl rt K (f x)) := by
  cases o <;> rfl
theorem q_bt_join {α : Type} (fl : α) (rt : qR → α) (K : Nat → qL → List Value → qH → α) (b : Bool) (x y : qT) : q_join fl rt K (q_bt b x y) = q_bt b (q_join fl rt K x) (q_join fl rt K y) := by
  cases b <;> rfl
theorem q_sw_join {α : Type} (fl : α) (rt : qR → α) (K : Nat → qL → List Value → qH → α) (f : Nat → qT) (x : Int32) (d : Nat) (sw : List (Int32 × Nat)) : q_join fl rt K (q_sw f x d sw) = q_sw (fun p => q_join fl rt K (f p)) x d sw := by
  induction sw with
  | nil => rfl
  | cons p r ih =>
    unfold q_sw
    split
    · rfl
    · exact ih
theorem q_inv_join {α : Type} (k : Nat) (call : qC) (fl : α) (rt : qR → α) (K : Nat → qL → List Value → qH → α) (nx : Nat) (ax : List Nat) (L : qL) (st : List Value) (σ : qH) :
    q_inv k call fl K nx ax L st σ = q_join fl rt K (q_inv k call none q_K nx ax L st σ) := by
  unfold q_inv
  rw [q_bt_join]
  congr 1
  split
  · rw [q_ob_join]; rfl
  · rw [q_ob_join]; rfl
  · rw [q_ob_join]; rfl
  · rw [q_ob_join]
    congr 1
    funext p
    cases p.1 <;> rfl
set_option maxHeartbeats 4000000 in
theorem q_G_join {α : Type} (k : Nat) (call : qC) (fl : α) (rt : qR → α) (K : Nat → qL → List Value → qH → α) (ins : Instr) (nx : Nat) (ax : List Nat) (cv : Value) (sw : List (Int32 × Nat)) (L : qL) (st : List Value) (σ : qH) :
    q_G k call fl rt K ins nx ax cv sw L st σ = q_join fl rt K (q_G k call none (fun r => some (.inl r)) q_K ins nx ax cv sw L st σ) := by
  unfold q_G
  cases ins <;> (try rfl) <;> dsimp only <;> (try (rw [q_ob_join]; rfl)) <;> (try exact q_inv_join k call fl rt K nx ax L st σ) <;>
    (repeat' split) <;> (try rfl) <;> (try (rw [q_ob_join]; rfl)) <;> (try (rw [q_sw_join]; rfl)) <;> (try (rw [q_bt_join]; rfl)) <;> (try (rw [q_ob_join]; congr 1; done))
  · rw [q_bt_join, q_bt_join, ← q_inv_join]
    rfl
  · rw [q_bt_join, ← q_inv_join]
    rfl
  · rw [q_bt_join, q_bt_join, q_bt_join, q_bt_join, ← q_inv_join]
    rfl
  · rw [q_bt_join, q_bt_join, ← q_inv_join]
    rfl
theorem q_F_join {α : Type} (k : Nat) (cd : List (Nat × qI)) (call : qC) (fl : α) (rt : qR → α) (K : Nat → qL → List Value → qH → α) (pc : Nat) (L : qL) (st : List Value) (σ : qH) :
    q_F k cd call fl rt K pc L st σ = q_join fl rt K (q_step k cd call pc L st σ) := by
  unfold q_step q_F
  split
  · rfl
  · exact q_G_join ..
theorem q_inv_congr {α : Type} {k : Nat} {c1 c2 : qC} (h : ∀ j, j < k → c1 j = c2 j) (fl : α) (K : Nat → qL → List Value → qH → α) (nx : Nat) (ax : List Nat) (L : qL) (st : List Value) (σ : qH) :
    q_inv k c1 fl K nx ax L st σ = q_inv k c2 fl K nx ax L st σ := by
  unfold q_inv
  by_cases hj : ax.getD 0 0 < k
  · rw [h _ hj]
  · have e : Nat.blt (ax.getD 0 0) k = false := by
      cases hb : Nat.blt (ax.getD 0 0) k with
      | false => rfl
      | true => exact absurd (Nat.blt_eq.mp hb) hj
    rw [e]
    rfl
theorem q_F_congr {α : Type} {k : Nat} {c1 c2 : qC} (h : ∀ j, j < k → c1 j = c2 j) (cd : List (Nat × qI)) (fl : α) (rt : qR → α) (K : Nat → qL → List Value → qH → α) (pc : Nat) (L : qL) (st : List Value) (σ : qH) :
    q_F k cd c1 fl rt K pc L st σ = q_F k cd c2 fl rt K pc L st σ := by
  unfold q_F
  split
  · rfl
  · unfold q_G
    split <;> (try rfl)
    · exact q_inv_congr h ..
    · rw [q_inv_congr h]
    · rw [q_inv_congr h]
-- runs of bounded length, and their limit
def q_it (k : Nat) (cd : List (Nat × qI)) (call : qC) : Nat → Nat → qL → List Value → qH → Option qR
  | 0 => fun _ _ _ _ => none
  | n + 1 => q_F k cd call none some (q_it k cd call n)
theorem q_it_mono {k : Nat} {cd : List (Nat × qI)} {call : qC} : ∀ (n : Nat) (pc : Nat) (L : qL) (st : List Value) (σ : qH) (r : qR), q_it k cd call n pc L st σ = some r → q_it k cd call (n + 1) pc L st σ = some r := by
  intro n
  induction n with
  | zero => intro pc L st σ r h; cases h
  | succ n ih =>
    intro pc L st σ r h
    unfold q_it at h ⊢
    rw [q_F_join] at h ⊢
    cases hs : q_step k cd call pc L st σ with
    | none => rw [hs] at h; cases h
    | some x =>
      rw [hs] at h
      cases x with
      | inl r0 => exact h
      | inr s => exact ih _ _ _ _ _ h
theorem q_it_le {k : Nat} {cd : List (Nat × qI)} {call : qC} {n m : Nat} (hnm : n ≤ m) {pc : Nat} {L : qL} {st : List Value} {σ : qH} {r : qR} (h : q_it k cd call n pc L st σ = some r) : q_it k cd call m pc L st σ = some r := by
  induction hnm with
  | refl => exact h
  | step _ ih => exact q_it_mono _ _ _ _ _ _ ih
noncomputable def q_lim (f : Nat → Option qR) : Option qR := by
  classical exact if h : ∃ n, (f n).isSome = true then f h.choose else none
theorem q_lim_iff {f : Nat → Option qR} (hm : ∀ n m r, n ≤ m → f n = some r → f m = some r) (r : qR) : q_lim f = some r ↔ ∃ n, f n = some r := by
  classical
  unfold q_lim
  by_cases h : ∃ n, (f n).isSome = true
  · rw [dif_pos h]
    constructor
    · intro e; exact ⟨_, e⟩
    · rintro ⟨n, e⟩
      obtain ⟨r2, e2⟩ := Option.isSome_iff_exists.mp h.choose_spec
      rcases Nat.le_total n h.choose with q | q
      · rw [hm _ _ _ q e]
      · have := hm _ _ _ q e2
        rw [e] at this
        rw [e2]; exact this.symm
  · rw [dif_neg h]
    constructor
    · intro e; cases e
    · rintro ⟨n, e⟩
      exact absurd ⟨n, by rw [e]; rfl⟩ h
noncomputable def q_rn0 (k : Nat) (cd : List (Nat × qI)) (call : qC) (pc : Nat) (L : qL) (st : List Value) (σ : qH) : Option qR := q_lim fun n => q_it k cd call n pc L st σ
theorem q_rn0_iff {k : Nat} {cd : List (Nat × qI)} {call : qC} {pc : Nat} {L : qL} {st : List Value} {σ : qH} (r : qR) : q_rn0 k cd call pc L st σ = some r ↔ ∃ n, q_it k cd call n pc L st σ = some r :=
  q_lim_iff (fun _ _ _ h e => q_it_le h e) r
theorem q_opt_ext {α : Type} {a b : Option α} (h : ∀ r, a = some r ↔ b = some r) : a = b := by
  cases a with
  | none =>
    cases b with
    | none => rfl
    | some y => exact absurd ((h y).mpr rfl) (by simp)
  | some x => exact ((h x).mp rfl).symm
theorem q_rn0_eq (k : Nat) (cd : List (Nat × qI)) (call : qC) (pc : Nat) (L : qL) (st : List Value) (σ : qH) : q_rn0 k cd call pc L st σ = q_F k cd call none some (q_rn0 k cd call) pc L st σ := by
  apply q_opt_ext
  intro r
  rw [q_rn0_iff, q_F_join]
  cases hs : q_step k cd call pc L st σ with
  | none =>
    constructor
    · rintro ⟨n, e⟩
      cases n with
      | zero => cases e
      | succ n => unfold q_it at e; rw [q_F_join, hs] at e; cases e
    · intro e; cases e
  | some x =>
    cases x with
    | inl r0 =>
      constructor
      · rintro ⟨n, e⟩
        cases n with
        | zero => cases e
        | succ n => unfold q_it at e; rw [q_F_join, hs] at e; exact e
      · intro e
        exact ⟨1, by unfold q_it; rw [q_F_join, hs]; exact e⟩
    | inr s =>
      show _ ↔ q_rn0 k cd call s.1 s.2.1 s.2.2.1 s.2.2.2 = some r
      rw [q_rn0_iff]
      constructor
      · rintro ⟨n, e⟩
        cases n with
        | zero => cases e
        | succ n => unfold q_it at e; rw [q_F_join, hs] at e; exact ⟨n, e⟩
      · rintro ⟨n, e⟩
        exact ⟨n + 1, by unfold q_it; rw [q_F_join, hs]; exact e⟩
-- a method's entry: the receiver is an object of the class; the arguments' number and width
def q_ent (M : qM) (args : List Value) (σ : qH) (R : Nat → qL → List Value → qH → Option qR) : Option qR :=
  q_bt ((Nat.beq M.2.1.2.2 0 || (q_obj σ (args.headD .null) M.2.1.2.1).isSome) && Nat.beq args.length (M.2.2.1.getD 4 0) && Nat.ble (lg_sl args).length M.1.2.2.1) (R 0 (lv_args 0 args) [] σ) none
noncomputable def q_cn (ms : Nat → qM) : Nat → qC
  | 0 => fun _ _ _ => none
  | n + 1 => fun j args σ => q_bt (Nat.beq j n) (q_ent (ms n) args σ (q_rn0 n (ms n).2.2.2 (q_cn ms n))) (q_cn ms n j args σ)
theorem q_cn_lt (ms : Nat → qM) {j : Nat} : ∀ n, j < n → q_cn ms n j = q_cn ms (j + 1) j := by
  intro n
  induction n with
  | zero => intro h; omega
  | succ n ih =>
    intro h
    by_cases e : j = n
    · rw [e]
    · rw [← ih (by omega)]
      funext args σ
      have hb : Nat.beq j n = false := by
        cases hb : Nat.beq j n with
        | false => rfl
        | true => exact absurd (Nat.eq_of_beq_eq_true hb) e
      show q_bt (Nat.beq j n) _ _ = _
      rw [hb]
      rfl
theorem q_it_congr {k : Nat} {c1 c2 : qC} (h : ∀ j, j < k → c1 j = c2 j) (cd : List (Nat × qI)) : ∀ n, q_it k cd c1 n = q_it k cd c2 n := by
  intro n
  induction n with
  | zero => rfl
  | succ n ih =>
    funext pc L st σ
    show q_F k cd c1 none some (q_it k cd c1 n) pc L st σ = q_F k cd c2 none some (q_it k cd c2 n) pc L st σ
    rw [ih, q_F_congr h]
theorem q_rn0_congr {k : Nat} {c1 c2 : qC} (h : ∀ j, j < k → c1 j = c2 j) (cd : List (Nat × qI)) : q_rn0 k cd c1 = q_rn0 k cd c2 := by
  funext pc L st σ
  unfold q_rn0
  congr 1
  funext n
  rw [q_it_congr h cd n]
theorem q_cn_self (ms : Nat → qM) (k : Nat) (args : List Value) (σ : qH) : q_cn ms (k + 1) k args σ = q_ent (ms k) args σ (q_rn0 k (ms k).2.2.2 (fun j => q_cn ms (j + 1) j)) := by
  show q_bt (Nat.beq k k) _ _ = _
  rw [show Nat.beq k k = true from Nat.beq_refl k]
  show q_ent _ _ _ _ = _
  rw [q_rn0_congr (k := k) (c1 := q_cn ms k) (c2 := fun j => q_cn ms (j + 1) j) (fun j hj => q_cn_lt ms k hj)]
-- a step, then on until a stop
theorem q_pick_lookup (L : qL) (i : Nat) : ∀ ks : List Nat, i ∈ ks → (q_pick L ks).lookup i = L.lookup i := by
  intro ks
  induction ks with
  | nil => intro h; cases h
  | cons j r ih =>
    intro h
    unfold q_pick
    by_cases e : i = j
    · subst e
      cases hl : L.lookup i with
      | some v =>
        show ((i, v) :: q_pick L r).lookup i = some v
        simp [List.lookup]
      | none =>
        show (q_pick L r).lookup i = none
        by_cases hr : i ∈ r
        · rw [ih hr, hl]
        · clear ih h
          induction r with
          | nil => rfl
          | cons a b ihb =>
            unfold q_pick
            have h1 : i ≠ a := fun q => hr (q ▸ List.mem_cons_self)
            have h2 : i ∉ b := fun q => hr (List.mem_cons_of_mem _ q)
            split
            · rw [List.lookup_cons]
              have : (i == a) = false := by simpa using h1
              rw [this]
              exact ihb h2
            · exact ihb h2
    · have h2 : i ∈ r := (List.mem_cons.mp h).resolve_left e
      have hb : (i == j) = false := by simpa using e
      split
      · rw [List.lookup_cons, hb]
        exact ih h2
      · exact ih h2
theorem q_pick_sub (L L' : qL) : ∀ ks : List Nat, (∀ i ∈ ks, L'.lookup i = L.lookup i) → q_pick L' ks = q_pick L ks := by
  intro ks
  induction ks with
  | nil => intro _; rfl
  | cons j r ih =>
    intro h
    unfold q_pick
    rw [h j List.mem_cons_self, ih fun i hi => h i (List.mem_cons_of_mem _ hi)]
theorem q_keep_idem (o : Option (List Nat)) (L : qL) : q_keep o (q_keep o L) = q_keep o L := by
  cases o with
  | none => rfl
  | some ks => exact q_pick_sub L (q_pick L ks) ks fun i hi => q_pick_lookup L i ks hi
def q_kp (cd : List (Nat × qI)) (pc : Nat) (L : qL) : qL := match cd.lookup pc with
  | none => L
  | some e => q_keep e.2.2.1 L
theorem q_F_kp {α : Type} (k : Nat) (cd : List (Nat × qI)) (call : qC) (fl : α) (rt : qR → α) (K : Nat → qL → List Value → qH → α) (pc : Nat) (L : qL) (st : List Value) (σ : qH) :
    q_F k cd call fl rt K pc (q_kp cd pc L) st σ = q_F k cd call fl rt K pc L st σ := by
  unfold q_F q_kp
  cases h : cd.lookup pc with
  | none => rfl
  | some e =>
    show q_G _ _ _ _ _ _ _ _ _ _ (q_keep e.2.2.1 (q_keep e.2.2.1 L)) _ _ = _
    rw [q_keep_idem]
def q_un (k : Nat) (cd : List (Nat × qI)) (call : qC) (R : Nat → qL → List Value → qH → Option qR) (cuts : List Nat) : Nat → Nat → qL → List Value → qH → Option qR
  | 0 => R
  | n + 1 => fun pc L st σ => q_bt (cuts.elem pc) (R pc (q_kp cd pc L) st σ) (q_F k cd call none some (q_un k cd call R cuts n) pc L st σ)
theorem q_un_eq {k : Nat} {cd : List (Nat × qI)} {call : qC} {R : Nat → qL → List Value → qH → Option qR} (h : ∀ pc L st σ, R pc L st σ = q_F k cd call none some R pc L st σ) (cuts : List Nat) : ∀ n, q_un k cd call R cuts n = R := by
  intro n
  induction n with
  | zero => rfl
  | succ n ih =>
    funext pc L st σ
    show q_bt (cuts.elem pc) (R pc (q_kp cd pc L) st σ) (q_F k cd call none some (q_un k cd call R cuts n) pc L st σ) = _
    rw [ih, ← h, h pc (q_kp cd pc L), q_F_kp, ← h]
    cases cuts.elem pc <;> rfl
end
section
/-! ===== the methods of the class, the reference, the law, as tables of the pure machine (by wip/whole/gen2.py out of the printed names and listing) ===== -/
/-- 0: PlushFlocks$Plan.<init>()V -/
def qc_0 : List (Nat × qI) := [(0, (.aload_n 0, 1, none, [0], .null, [])),
  (1, (.invokespecial 3, 4, none, [999, 0, 0, 1025], .null, [])),
  (4, (.aload_n 0, 5, none, [0], .null, [])),
  (5, (.iconst 0, 6, none, [], .int 0, [])),
  (6, (.putfield 9, 9, none, [3, 0, 0, 1026], .null, [])),
  (9, (.aload_n 0, 10, none, [0], .null, [])),
  (10, (.iconst 0, 11, none, [], .int 0, [])),
  (11, (.putfield 15, 14, none, [3, 1, 0, 1031], .null, [])),
  (14, (.aload_n 0, 15, none, [0], .null, [])),
  (15, (.bipush 20, 17, none, [], .int 20, [])),
  (17, (.putfield 18, 20, none, [3, 2, 0, 1037], .null, [])),
  (20, (.aload_n 0, 21, none, [0], .null, [])),
  (21, (.iconst 0, 22, none, [], .int 0, [])),
  (22, (.putfield 21, 25, none, [3, 3, 4, 1040], .null, [])),
  (25, (.aload_n 0, 26, none, [0], .null, [])),
  (26, (.lconst 0, 27, none, [], .long 0, [])),
  (27, (.putfield 25, 30, none, [3, 4, 1, 1042], .null, [])),
  (30, (.aload_n 0, 31, none, [0], .null, [])),
  (31, (.lconst 0, 32, none, [], .long 0, [])),
  (32, (.putfield 29, 35, none, [3, 5, 1, 1044], .null, [])),
  (35, (.aload_n 0, 36, none, [0], .null, [])),
  (36, (.lconst 0, 37, none, [], .long 0, [])),
  (37, (.putfield 32, 40, none, [3, 6, 1, 1046], .null, [])),
  (40, (.aload_n 0, 41, none, [0], .null, [])),
  (41, (.iconst 0, 42, none, [], .int 0, [])),
  (42, (.putfield 35, 45, none, [3, 7, 0, 1050], .null, [])),
  (45, (.aload_n 0, 46, none, [0], .null, [])),
  (46, (.lconst 0, 47, none, [], .long 0, [])),
  (47, (.putfield 38, 50, none, [3, 8, 1, 1054], .null, [])),
  (50, (.aload_n 0, 51, none, [0], .null, [])),
  (51, (.lconst 0, 52, none, [], .long 0, [])),
  (52, (.putfield 41, 55, none, [3, 9, 1, 1058], .null, [])),
  (55, (.return_, 56, none, [], .null, []))]
def qm_0 : qM := (((⟨"PlushFlocks$Plan", "<init>", "()V"⟩ : MethodName), prog_5_method_1_code, 1, (Option.none : Option Jvm.ClassFile.FieldType)), ("PlushFlocks$Plan", 3, 2), [1024, 1002, 1023, 0, 1], qc_0)
/-- 1: PlushFlocks$Evening.<init>()V -/
def qc_1 : List (Nat × qI) := [(0, (.aload_n 0, 1, none, [0], .null, [])),
  (1, (.invokespecial 3, 4, none, [999, 0, 0, 1087], .null, [])),
  (4, (.aload_n 0, 5, none, [0], .null, [])),
  (5, (.iconst 0, 6, none, [], .int 0, [])),
  (6, (.putfield 9, 9, none, [0, 0, 0, 1088], .null, [])),
  (9, (.aload_n 0, 10, none, [0], .null, [])),
  (10, (.lconst 0, 11, none, [], .long 0, [])),
  (11, (.putfield 15, 14, none, [0, 1, 1, 1091], .null, [])),
  (14, (.aload_n 0, 15, none, [0], .null, [])),
  (15, (.lconst 0, 16, none, [], .long 0, [])),
  (16, (.putfield 19, 19, none, [0, 2, 1, 1093], .null, [])),
  (19, (.aload_n 0, 20, none, [0], .null, [])),
  (20, (.lconst 0, 21, none, [], .long 0, [])),
  (21, (.putfield 22, 24, none, [0, 3, 1, 1095], .null, [])),
  (24, (.aload_n 0, 25, none, [0], .null, [])),
  (25, (.iconst 0, 26, none, [], .int 0, [])),
  (26, (.putfield 25, 29, none, [0, 4, 0, 1097], .null, [])),
  (29, (.aload_n 0, 30, none, [0], .null, [])),
  (30, (.iconst 0, 31, none, [], .int 0, [])),
  (31, (.putfield 28, 34, none, [0, 5, 0, 1100], .null, [])),
  (34, (.return_, 35, none, [], .null, []))]
def qm_1 : qM := (((⟨"PlushFlocks$Evening", "<init>", "()V"⟩ : MethodName), prog_2_method_1_code, 1, (Option.none : Option Jvm.ClassFile.FieldType)), ("PlushFlocks$Evening", 0, 2), [1086, 1003, 1085, 0, 1], qc_1)
/-- 2: PlushFlocks$Past.<init>()V -/
def qc_2 : List (Nat × qI) := [(0, (.aload_n 0, 1, none, [0], .null, [])),
  (1, (.invokespecial 3, 4, none, [999, 0, 0, 1120], .null, [])),
  (4, (.aload_n 0, 5, none, [0], .null, [])),
  (5, (.bipush 10, 7, none, [], .int 10, [])),
  (7, (.anewarray 9, 10, none, [4, 1121], .null, [])),
  (10, (.putfield 11, 13, none, [2, 0, 2, 1124], .null, [])),
  (13, (.aload_n 0, 14, none, [0], .null, [])),
  (14, (.iconst 0, 15, none, [], .int 0, [])),
  (15, (.putfield 17, 18, none, [2, 1, 0, 1125], .null, [])),
  (18, (.aload_n 0, 19, none, [0], .null, [])),
  (19, (.iconst 0, 20, none, [], .int 0, [])),
  (20, (.putfield 21, 23, none, [2, 2, 0, 1126], .null, [])),
  (23, (.iconst 0, 24, none, [], .int 0, [])),
  (24, (.istore_n 1, 25, none, [1], .null, [])),
  (25, (.iload_n 1, 26, some [0, 1], [1], .null, [])),
  (26, (.aload_n 0, 27, none, [0], .null, [])),
  (27, (.getfield 11, 30, none, [2, 0, 2, 1124], .null, [])),
  (30, (.arraylength, 31, none, [4], .null, [])),
  (31, (.if_icmp .ge 22, 34, none, [53], .null, [])),
  (34, (.aload_n 0, 35, none, [0], .null, [])),
  (35, (.getfield 11, 38, none, [2, 0, 2, 1124], .null, [])),
  (38, (.iload_n 1, 39, none, [1], .null, [])),
  (39, (.new 9, 42, none, [0, 6, 1121, 1083, 1003], .null, [])),
  (42, (.dup, 43, none, [], .null, [])),
  (43, (.invokespecial 24, 46, none, [1, 1, 0, 2, 1], .null, [])),
  (46, (.aastore, 47, none, [], .null, [])),
  (47, (.iinc 1 1, 50, none, [1], .int 1, [])),
  (50, (.goto (-25), 53, none, [25], .null, [])),
  (53, (.return_, 54, none, [], .null, []))]
def qm_2 : qM := (((⟨"PlushFlocks$Past", "<init>", "()V"⟩ : MethodName), prog_4_method_1_code, 2, (Option.none : Option Jvm.ClassFile.FieldType)), ("PlushFlocks$Past", 2, 2), [1119, 1004, 1118, 0, 1], qc_2)
/-- 3: PlushFlocks$Grazing.<init>()V -/
def qc_3 : List (Nat × qI) := [(0, (.aload_n 0, 1, none, [0], .null, [])),
  (1, (.invokespecial 3, 4, none, [999, 0, 0, 1140], .null, [])),
  (4, (.aload_n 0, 5, none, [0], .null, [])),
  (5, (.lconst 0, 6, none, [], .long 0, [])),
  (6, (.putfield 9, 9, none, [1, 0, 1, 1141], .null, [])),
  (9, (.aload_n 0, 10, none, [0], .null, [])),
  (10, (.lconst 0, 11, none, [], .long 0, [])),
  (11, (.putfield 15, 14, none, [1, 1, 1, 1142], .null, [])),
  (14, (.aload_n 0, 15, none, [0], .null, [])),
  (15, (.lconst 0, 16, none, [], .long 0, [])),
  (16, (.putfield 18, 19, none, [1, 2, 1, 1143], .null, [])),
  (19, (.aload_n 0, 20, none, [0], .null, [])),
  (20, (.iconst 0, 21, none, [], .int 0, [])),
  (21, (.putfield 21, 24, none, [1, 3, 0, 1144], .null, [])),
  (24, (.aload_n 0, 25, none, [0], .null, [])),
  (25, (.iconst 0, 26, none, [], .int 0, [])),
  (26, (.putfield 25, 29, none, [1, 4, 0, 1146], .null, [])),
  (29, (.aload_n 0, 30, none, [0], .null, [])),
  (30, (.iconst 0, 31, none, [], .int 0, [])),
  (31, (.putfield 28, 34, none, [1, 5, 0, 1148], .null, [])),
  (34, (.aload_n 0, 35, none, [0], .null, [])),
  (35, (.iconst 0, 36, none, [], .int 0, [])),
  (36, (.putfield 31, 39, none, [1, 6, 0, 1150], .null, [])),
  (39, (.return_, 40, none, [], .null, []))]
def qm_3 : qM := (((⟨"PlushFlocks$Grazing", "<init>", "()V"⟩ : MethodName), prog_3_method_1_code, 1, (Option.none : Option Jvm.ClassFile.FieldType)), ("PlushFlocks$Grazing", 1, 2), [1139, 1005, 1138, 0, 1], qc_3)
/-- 4: PlushFlocks$WayBack.<init>()V -/
def qc_4 : List (Nat × qI) := [(0, (.aload_n 0, 1, none, [0], .null, [])),
  (1, (.invokespecial 3, 4, none, [999, 0, 0, 1172], .null, [])),
  (4, (.aload_n 0, 5, none, [0], .null, [])),
  (5, (.sipush 3125, 8, none, [], .int 3125, [])),
  (8, (.newarray .int, 10, none, [1, 1191], .null, [])),
  (10, (.putfield 11, 13, none, [5, 0, 2, 1173], .null, [])),
  (13, (.aload_n 0, 14, none, [0], .null, [])),
  (14, (.sipush 512, 17, none, [], .int 512, [])),
  (17, (.newarray .long, 19, none, [2, 1192], .null, [])),
  (19, (.putfield 15, 22, none, [5, 1, 2, 1174], .null, [])),
  (22, (.aload_n 0, 23, none, [0], .null, [])),
  (23, (.iconst 0, 24, none, [], .int 0, [])),
  (24, (.putfield 19, 27, none, [5, 2, 0, 1175], .null, [])),
  (27, (.aload_n 0, 28, none, [0], .null, [])),
  (28, (.bipush (-9), 30, none, [], .int (-9), [])),
  (30, (.putfield 23, 33, none, [5, 3, 0, 1176], .null, [])),
  (33, (.aload_n 0, 34, none, [0], .null, [])),
  (34, (.bipush (-9), 36, none, [], .int (-9), [])),
  (36, (.putfield 26, 39, none, [5, 4, 0, 1178], .null, [])),
  (39, (.return_, 40, none, [], .null, []))]
def qm_4 : qM := (((⟨"PlushFlocks$WayBack", "<init>", "()V"⟩ : MethodName), prog_7_method_1_code, 1, (Option.none : Option Jvm.ClassFile.FieldType)), ("PlushFlocks$WayBack", 5, 2), [1171, 1006, 1170, 0, 1], qc_4)
/-- 5: PlushFlocks.<init>()V -/
def qc_5 : List (Nat × qI) := [(0, (.aload_n 0, 1, none, [0], .null, [])),
  (1, (.invokespecial 3, 4, none, [999, 0, 0, 1017], .null, [])),
  (4, (.aload_n 0, 5, none, [0], .null, [])),
  (5, (.bipush 120, 7, none, [], .int 120, [])),
  (7, (.newarray .char, 9, none, [0, 1081], .null, [])),
  (9, (.putfield 9, 12, none, [6, 0, 2, 1193], .null, [])),
  (12, (.aload_n 0, 13, none, [0], .null, [])),
  (13, (.iconst 0, 14, none, [], .int 0, [])),
  (14, (.putfield 13, 17, none, [6, 1, 0, 1194], .null, [])),
  (17, (.aload_n 0, 18, none, [0], .null, [])),
  (18, (.new 17, 21, none, [3, 10, 1020, 1021, 1002], .null, [])),
  (21, (.dup, 22, none, [], .null, [])),
  (22, (.invokespecial 19, 25, none, [0, 1, 0, 0, 1], .null, [])),
  (25, (.putfield 20, 28, none, [6, 2, 2, 1195], .null, [])),
  (28, (.aload_n 0, 29, none, [0], .null, [])),
  (29, (.new 24, 32, none, [0, 6, 1082, 1083, 1003], .null, [])),
  (32, (.dup, 33, none, [], .null, [])),
  (33, (.invokespecial 26, 36, none, [1, 1, 0, 1, 1], .null, [])),
  (36, (.putfield 27, 39, none, [6, 3, 2, 1196], .null, [])),
  (39, (.aload_n 0, 40, none, [0], .null, [])),
  (40, (.new 24, 43, none, [0, 6, 1082, 1083, 1003], .null, [])),
  (43, (.dup, 44, none, [], .null, [])),
  (44, (.invokespecial 26, 47, none, [1, 1, 0, 1, 1], .null, [])),
  (47, (.putfield 31, 50, none, [6, 4, 2, 1197], .null, [])),
  (50, (.aload_n 0, 51, none, [0], .null, [])),
  (51, (.new 34, 54, none, [2, 3, 1115, 1116, 1004], .null, [])),
  (54, (.dup, 55, none, [], .null, [])),
  (55, (.invokespecial 36, 58, none, [2, 1, 0, 1117, 0], .null, [])),
  (58, (.putfield 37, 61, none, [6, 5, 2, 1198], .null, [])),
  (61, (.aload_n 0, 62, none, [0], .null, [])),
  (62, (.iconst 2, 63, none, [], .int 2, [])),
  (63, (.anewarray 24, 66, none, [4, 1082], .null, [])),
  (66, (.putfield 41, 69, none, [6, 6, 2, 1199], .null, [])),
  (69, (.aload_n 0, 70, none, [0], .null, [])),
  (70, (.iconst 0, 71, none, [], .int 0, [])),
  (71, (.putfield 45, 74, none, [6, 7, 0, 1200], .null, [])),
  (74, (.aload_n 0, 75, none, [0], .null, [])),
  (75, (.new 48, 78, none, [1, 7, 1135, 1136, 1005], .null, [])),
  (78, (.dup, 79, none, [], .null, [])),
  (79, (.invokespecial 50, 82, none, [3, 1, 0, 3, 1], .null, [])),
  (82, (.putfield 51, 85, none, [6, 8, 2, 1201], .null, [])),
  (85, (.aload_n 0, 86, none, [0], .null, [])),
  (86, (.new 55, 89, none, [5, 5, 1167, 1168, 1006], .null, [])),
  (89, (.dup, 90, none, [], .null, [])),
  (90, (.invokespecial 57, 93, none, [4, 1, 0, 4, 1], .null, [])),
  (93, (.putfield 58, 96, none, [6, 9, 2, 1202], .null, [])),
  (96, (.aload_n 0, 97, none, [0], .null, [])),
  (97, (.lconst 0, 98, none, [], .long 0, [])),
  (98, (.putfield 62, 101, none, [6, 10, 1, 1203], .null, [])),
  (101, (.iconst 0, 102, none, [], .int 0, [])),
  (102, (.istore_n 1, 103, none, [1], .null, [])),
  (103, (.iload_n 1, 104, some [0, 1], [1], .null, [])),
  (104, (.aload_n 0, 105, none, [0], .null, [])),
  (105, (.getfield 41, 108, none, [6, 6, 2, 1199], .null, [])),
  (108, (.arraylength, 109, none, [4], .null, [])),
  (109, (.if_icmp .ge 22, 112, none, [131], .null, [])),
  (112, (.aload_n 0, 113, none, [0], .null, [])),
  (113, (.getfield 41, 116, none, [6, 6, 2, 1199], .null, [])),
  (116, (.iload_n 1, 117, none, [1], .null, [])),
  (117, (.new 24, 120, none, [0, 6, 1082, 1083, 1003], .null, [])),
  (120, (.dup, 121, none, [], .null, [])),
  (121, (.invokespecial 26, 124, none, [1, 1, 0, 1, 1], .null, [])),
  (124, (.aastore, 125, none, [], .null, [])),
  (125, (.iinc 1 1, 128, none, [1], .int 1, [])),
  (128, (.goto (-25), 131, none, [103], .null, [])),
  (131, (.return_, 132, none, [], .null, []))]
def qm_5 : qM := (((⟨"PlushFlocks", "<init>", "()V"⟩ : MethodName), prog_1_method_1_code, 2, (Option.none : Option Jvm.ClassFile.FieldType)), ("PlushFlocks", 6, 2), [1016, 1001, 1015, 0, 1], qc_5)
/-- 6: PlushFlocksModel.letterAt(I)I -/
def qc_6 : List (Nat × qI) := [(0, (.iload_n 1, 1, none, [1], .null, [])),
  (1, (.aload_n 0, 2, none, [0], .null, [])),
  (2, (.getfield 56, 5, none, [7, 2, 0, 3225], .null, [])),
  (5, (.if_icmp .ge 12, 8, none, [17], .null, [])),
  (8, (.aload_n 0, 9, none, [0], .null, [])),
  (9, (.getfield 7, 12, none, [7, 1, 2, 3224], .null, [])),
  (12, (.iload_n 1, 13, none, [1], .null, [])),
  (13, (.iaload, 14, none, [1], .null, [])),
  (14, (.goto 4, 17, none, [18], .null, [])),
  (17, (.iconst (-1), 18, none, [], .int (-1), [])),
  (18, (.ireturn, 19, some [], [0], .null, []))]
def qm_6 : qM := (((⟨"PlushFlocksModel", "letterAt", "(I)I"⟩ : MethodName), prog_9_method_10_code, 2, (Option.some Jvm.ClassFile.FieldType.int)), ("PlushFlocksModel", 7, 1), [3193, 1007, 3192, 29, 2], qc_6)
/-- 7: PlushFlocksModel.isWord(I)Z -/
def qc_7 : List (Nat × qI) := [(0, (.iload_n 0, 1, none, [0], .null, [])),
  (1, (.bipush 114, 3, none, [], .int 114, [])),
  (3, (.if_icmp .eq 21, 6, none, [24], .null, [])),
  (6, (.iload_n 0, 7, none, [0], .null, [])),
  (7, (.bipush 100, 9, none, [], .int 100, [])),
  (9, (.if_icmp .eq 15, 12, none, [24], .null, [])),
  (12, (.iload_n 0, 13, none, [0], .null, [])),
  (13, (.bipush 102, 15, none, [], .int 102, [])),
  (15, (.if_icmp .eq 9, 18, none, [24], .null, [])),
  (18, (.iload_n 0, 19, none, [0], .null, [])),
  (19, (.bipush 110, 21, none, [], .int 110, [])),
  (21, (.if_icmp .ne 7, 24, none, [28], .null, [])),
  (24, (.iconst 1, 25, some [], [], .int 1, [])),
  (25, (.goto 4, 28, none, [29], .null, [])),
  (28, (.iconst 0, 29, none, [], .int 0, [])),
  (29, (.ireturn, 30, some [], [4], .null, []))]
def qm_7 : qM := (((⟨"PlushFlocksModel", "isWord", "(I)Z"⟩ : MethodName), prog_9_method_12_code, 1, (Option.some Jvm.ClassFile.FieldType.boolean)), ("PlushFlocksModel", 7, 0), [3196, 1007, 3195, 0, 1], qc_7)
/-- 8: PlushFlocksModel.in(III)Z -/
def qc_8 : List (Nat × qI) := [(0, (.iload_n 0, 1, none, [0], .null, [])),
  (1, (.iload_n 1, 2, none, [1], .null, [])),
  (2, (.if_icmp .lt 12, 5, none, [14], .null, [])),
  (5, (.iload_n 0, 6, none, [0], .null, [])),
  (6, (.iload_n 2, 7, none, [2], .null, [])),
  (7, (.if_icmp .gt 7, 10, none, [14], .null, [])),
  (10, (.iconst 1, 11, none, [], .int 1, [])),
  (11, (.goto 4, 14, none, [15], .null, [])),
  (14, (.iconst 0, 15, some [], [], .int 0, [])),
  (15, (.ireturn, 16, some [], [4], .null, []))]
def qm_8 : qM := (((⟨"PlushFlocksModel", "in", "(III)Z"⟩ : MethodName), prog_9_method_3_code, 3, (Option.some Jvm.ClassFile.FieldType.boolean)), ("PlushFlocksModel", 7, 0), [3202, 1007, 3201, 0, 3], qc_8)
/-- 9: PlushFlocksModel.isDigit(I)Z -/
def qc_9 : List (Nat × qI) := [(0, (.iload_n 0, 1, none, [0], .null, [])),
  (1, (.bipush 48, 3, none, [], .int 48, [])),
  (3, (.bipush 57, 5, none, [], .int 57, [])),
  (5, (.invokestatic 52, 8, none, [8, 3, 1, 3200, 0], .null, [])),
  (8, (.ireturn, 9, none, [4], .null, []))]
def qm_9 : qM := (((⟨"PlushFlocksModel", "isDigit", "(I)Z"⟩ : MethodName), prog_9_method_11_code, 1, (Option.some Jvm.ClassFile.FieldType.boolean)), ("PlushFlocksModel", 7, 0), [3199, 1007, 3198, 0, 1], qc_9)
/-- 10: PlushFlocksModel.token()V -/
def qc_10 : List (Nat × qI) := [(0, (.aload_n 0, 1, some [0], [0], .null, [])),
  (1, (.aload_n 0, 2, none, [0], .null, [])),
  (2, (.getfield 60, 5, none, [7, 12, 0, 3235], .null, [])),
  (5, (.invokevirtual 63, 8, none, [6, 2, 1, 3190, 0], .null, [])),
  (8, (.bipush 32, 10, none, [], .int 32, [])),
  (10, (.if_icmp .ne 16, 13, none, [26], .null, [])),
  (13, (.aload_n 0, 14, none, [0], .null, [])),
  (14, (.dup, 15, none, [], .null, [])),
  (15, (.getfield 60, 18, none, [7, 12, 0, 3235], .null, [])),
  (18, (.iconst 1, 19, none, [], .int 1, [])),
  (19, (.iadd, 20, none, [], .null, [])),
  (20, (.putfield 60, 23, none, [7, 12, 0, 3235], .null, [])),
  (23, (.goto (-23), 26, none, [0], .null, [])),
  (26, (.aload_n 0, 27, none, [0], .null, [])),
  (27, (.aload_n 0, 28, none, [0], .null, [])),
  (28, (.getfield 60, 31, none, [7, 12, 0, 3235], .null, [])),
  (31, (.putfield 67, 34, none, [7, 14, 0, 3237], .null, [])),
  (34, (.aload_n 0, 35, none, [0], .null, [])),
  (35, (.aload_n 0, 36, none, [0], .null, [])),
  (36, (.getfield 60, 39, none, [7, 12, 0, 3235], .null, [])),
  (39, (.invokevirtual 63, 42, none, [6, 2, 1, 3190, 0], .null, [])),
  (42, (.istore_n 1, 43, none, [1], .null, [])),
  (43, (.aload_n 0, 44, none, [0], .null, [])),
  (44, (.iload_n 1, 45, none, [1], .null, [])),
  (45, (.ifCond .ge 7, 48, none, [52], .null, [])),
  (48, (.iconst 0, 49, none, [], .int 0, [])),
  (49, (.goto 36, 52, none, [85], .null, [])),
  (52, (.iload_n 1, 53, none, [1], .null, [])),
  (53, (.invokestatic 70, 56, none, [7, 1, 1, 3194, 0], .null, [])),
  (56, (.ifCond .eq 7, 59, none, [63], .null, [])),
  (59, (.iconst 1, 60, none, [], .int 1, [])),
  (60, (.goto 25, 63, none, [85], .null, [])),
  (63, (.iload_n 1, 64, none, [1], .null, [])),
  (64, (.invokestatic 74, 67, none, [9, 1, 1, 3197, 0], .null, [])),
  (67, (.ifCond .eq 7, 70, none, [74], .null, [])),
  (70, (.iconst 2, 71, none, [], .int 2, [])),
  (71, (.goto 14, 74, none, [85], .null, [])),
  (74, (.iload_n 1, 75, none, [1], .null, [])),
  (75, (.bipush 59, 77, none, [], .int 59, [])),
  (77, (.if_icmp .ne 7, 80, none, [84], .null, [])),
  (80, (.iconst 3, 81, none, [], .int 3, [])),
  (81, (.goto 4, 84, none, [85], .null, [])),
  (84, (.iconst 4, 85, none, [], .int 4, [])),
  (85, (.putfield 77, 88, some [0, 1], [7, 13, 0, 3236], .null, [])),
  (88, (.aload_n 0, 89, none, [0], .null, [])),
  (89, (.iload_n 1, 90, none, [1], .null, [])),
  (90, (.putfield 80, 93, none, [7, 15, 0, 3238], .null, [])),
  (93, (.aload_n 0, 94, none, [0], .null, [])),
  (94, (.dup, 95, none, [], .null, [])),
  (95, (.getfield 60, 98, none, [7, 12, 0, 3235], .null, [])),
  (98, (.aload_n 0, 99, none, [0], .null, [])),
  (99, (.getfield 77, 102, none, [7, 13, 0, 3236], .null, [])),
  (102, (.ifCond .ne 7, 105, none, [109], .null, [])),
  (105, (.iconst 0, 106, none, [], .int 0, [])),
  (106, (.goto 4, 109, none, [110], .null, [])),
  (109, (.iconst 1, 110, none, [], .int 1, [])),
  (110, (.iadd, 111, some [0, 1], [], .null, [])),
  (111, (.putfield 60, 114, none, [7, 12, 0, 3235], .null, [])),
  (114, (.aload_n 0, 115, none, [0], .null, [])),
  (115, (.getfield 77, 118, none, [7, 13, 0, 3236], .null, [])),
  (118, (.iconst 2, 119, none, [], .int 2, [])),
  (119, (.if_icmp .ne 83, 122, none, [202], .null, [])),
  (122, (.aload_n 0, 123, none, [0], .null, [])),
  (123, (.iload_n 1, 124, none, [1], .null, [])),
  (124, (.bipush 48, 126, none, [], .int 48, [])),
  (126, (.isub, 127, none, [], .null, [])),
  (127, (.putfield 80, 130, none, [7, 15, 0, 3238], .null, [])),
  (130, (.aload_n 0, 131, some [0, 1], [0], .null, [])),
  (131, (.aload_n 0, 132, none, [0], .null, [])),
  (132, (.getfield 60, 135, none, [7, 12, 0, 3235], .null, [])),
  (135, (.invokevirtual 63, 138, none, [6, 2, 1, 3190, 0], .null, [])),
  (138, (.invokestatic 74, 141, none, [9, 1, 1, 3197, 0], .null, [])),
  (141, (.ifCond .eq 61, 144, none, [202], .null, [])),
  (144, (.aload_n 0, 145, none, [0], .null, [])),
  (145, (.iload_n 1, 146, none, [1], .null, [])),
  (146, (.bipush 48, 148, none, [], .int 48, [])),
  (148, (.if_icmp .eq 12, 151, none, [160], .null, [])),
  (151, (.aload_n 0, 152, none, [0], .null, [])),
  (152, (.getfield 80, 155, none, [7, 15, 0, 3238], .null, [])),
  (155, (.bipush 99, 157, none, [], .int 99, [])),
  (157, (.if_icmp .le 9, 160, none, [166], .null, [])),
  (160, (.sipush 1000, 163, some [0, 1], [], .int 1000, [])),
  (163, (.goto 23, 166, none, [186], .null, [])),
  (166, (.bipush 10, 168, none, [], .int 10, [])),
  (168, (.aload_n 0, 169, none, [0], .null, [])),
  (169, (.getfield 80, 172, none, [7, 15, 0, 3238], .null, [])),
  (172, (.imul, 173, none, [], .null, [])),
  (173, (.aload_n 0, 174, none, [0], .null, [])),
  (174, (.getfield 7, 177, none, [7, 1, 2, 3224], .null, [])),
  (177, (.aload_n 0, 178, none, [0], .null, [])),
  (178, (.getfield 60, 181, none, [7, 12, 0, 3235], .null, [])),
  (181, (.iaload, 182, none, [1], .null, [])),
  (182, (.iadd, 183, none, [], .null, [])),
  (183, (.bipush 48, 185, none, [], .int 48, [])),
  (185, (.isub, 186, none, [], .null, [])),
  (186, (.putfield 80, 189, some [0, 1], [7, 15, 0, 3238], .null, [])),
  (189, (.aload_n 0, 190, none, [0], .null, [])),
  (190, (.dup, 191, none, [], .null, [])),
  (191, (.getfield 60, 194, none, [7, 12, 0, 3235], .null, [])),
  (194, (.iconst 1, 195, none, [], .int 1, [])),
  (195, (.iadd, 196, none, [], .null, [])),
  (196, (.putfield 60, 199, none, [7, 12, 0, 3235], .null, [])),
  (199, (.goto (-69), 202, none, [130], .null, [])),
  (202, (.return_, 203, some [], [], .null, []))]
def qm_10 : qM := (((⟨"PlushFlocksModel", "token", "()V"⟩ : MethodName), prog_9_method_13_code, 2, (Option.none : Option Jvm.ClassFile.FieldType)), ("PlushFlocksModel", 7, 1), [3189, 1007, 3188, 28, 1], qc_10)
/-- 11: PlushFlocksModel.isNumber(II)Z -/
def qc_11 : List (Nat × qI) := [(0, (.aload_n 0, 1, none, [0], .null, [])),
  (1, (.invokevirtual 83, 4, none, [10, 1, 0, 3186, 0], .null, [])),
  (4, (.aload_n 0, 5, none, [0], .null, [])),
  (5, (.getfield 77, 8, none, [7, 13, 0, 3236], .null, [])),
  (8, (.iconst 2, 9, none, [], .int 2, [])),
  (9, (.if_icmp .ne 19, 12, none, [28], .null, [])),
  (12, (.aload_n 0, 13, none, [0], .null, [])),
  (13, (.getfield 80, 16, none, [7, 15, 0, 3238], .null, [])),
  (16, (.iload_n 1, 17, none, [1], .null, [])),
  (17, (.iload_n 2, 18, none, [2], .null, [])),
  (18, (.invokestatic 52, 21, none, [8, 3, 1, 3200, 0], .null, [])),
  (21, (.ifCond .eq 7, 24, none, [28], .null, [])),
  (24, (.iconst 1, 25, none, [], .int 1, [])),
  (25, (.goto 4, 28, none, [29], .null, [])),
  (28, (.iconst 0, 29, some [], [], .int 0, [])),
  (29, (.ireturn, 30, some [], [4], .null, []))]
def qm_11 : qM := (((⟨"PlushFlocksModel", "isNumber", "(II)Z"⟩ : MethodName), prog_9_method_14_code, 3, (Option.some Jvm.ClassFile.FieldType.boolean)), ("PlushFlocksModel", 7, 1), [3214, 1007, 3213, 32, 3], qc_11)
/-- 12: PlushFlocksModel.number(III)Z -/
def qc_12 : List (Nat × qI) := [(0, (.aload_n 0, 1, none, [0], .null, [])),
  (1, (.iload_n 2, 2, none, [2], .null, [])),
  (2, (.iload_n 3, 3, none, [3], .null, [])),
  (3, (.invokevirtual 86, 6, none, [11, 3, 1, 3211, 0], .null, [])),
  (6, (.istore 4, 8, none, [4], .null, [])),
  (8, (.aload_n 0, 9, none, [0], .null, [])),
  (9, (.getfield 16, 12, none, [7, 4, 2, 3227], .null, [])),
  (12, (.iload_n 1, 13, none, [1], .null, [])),
  (13, (.aload_n 0, 14, none, [0], .null, [])),
  (14, (.getfield 80, 17, none, [7, 15, 0, 3238], .null, [])),
  (17, (.iastore, 18, none, [], .null, [])),
  (18, (.iload 4, 20, none, [4], .null, [])),
  (20, (.ireturn, 21, none, [4], .null, []))]
def qm_12 : qM := (((⟨"PlushFlocksModel", "number", "(III)Z"⟩ : MethodName), prog_9_method_15_code, 5, (Option.some Jvm.ClassFile.FieldType.boolean)), ("PlushFlocksModel", 7, 1), [3210, 1007, 3209, 31, 4], qc_12)
/-- 13: PlushFlocksModel.readsDoor()Z -/
def qc_13 : List (Nat × qI) := [(0, (.aload_n 0, 1, none, [0], .null, [])),
  (1, (.iconst 0, 2, none, [], .int 0, [])),
  (2, (.aload_n 0, 3, none, [0], .null, [])),
  (3, (.getfield 16, 6, none, [7, 4, 2, 3227], .null, [])),
  (6, (.iconst 0, 7, none, [], .int 0, [])),
  (7, (.iaload, 8, none, [1], .null, [])),
  (8, (.iconst 1, 9, none, [], .int 1, [])),
  (9, (.isub, 10, none, [], .null, [])),
  (10, (.invokevirtual 86, 13, none, [11, 3, 1, 3211, 0], .null, [])),
  (13, (.ifCond .ne 5, 16, none, [18], .null, [])),
  (16, (.iconst 0, 17, none, [], .int 0, [])),
  (17, (.ireturn, 18, none, [4], .null, [])),
  (18, (.aload_n 0, 19, none, [0], .null, [])),
  (19, (.getfield 80, 22, none, [7, 15, 0, 3238], .null, [])),
  (22, (.istore_n 1, 23, none, [1], .null, [])),
  (23, (.aload_n 0, 24, none, [0], .null, [])),
  (24, (.iconst 0, 25, none, [], .int 0, [])),
  (25, (.aload_n 0, 26, none, [0], .null, [])),
  (26, (.getfield 16, 29, none, [7, 4, 2, 3227], .null, [])),
  (29, (.iconst 0, 30, none, [], .int 0, [])),
  (30, (.iaload, 31, none, [1], .null, [])),
  (31, (.iconst 1, 32, none, [], .int 1, [])),
  (32, (.isub, 33, none, [], .null, [])),
  (33, (.invokevirtual 86, 36, none, [11, 3, 1, 3211, 0], .null, [])),
  (36, (.ifCond .eq 11, 39, none, [47], .null, [])),
  (39, (.aload_n 0, 40, none, [0], .null, [])),
  (40, (.getfield 80, 43, none, [7, 15, 0, 3238], .null, [])),
  (43, (.iload_n 1, 44, none, [1], .null, [])),
  (44, (.if_icmp .ne 5, 47, none, [49], .null, [])),
  (47, (.iconst 0, 48, some [], [], .int 0, [])),
  (48, (.ireturn, 49, none, [4], .null, [])),
  (49, (.aload_n 0, 50, none, [0], .null, [])),
  (50, (.getfield 16, 53, none, [7, 4, 2, 3227], .null, [])),
  (53, (.bipush 15, 55, none, [], .int 15, [])),
  (55, (.iload_n 1, 56, none, [1], .null, [])),
  (56, (.iadd, 57, none, [], .null, [])),
  (57, (.dup2, 58, none, [], .null, [])),
  (58, (.iaload, 59, none, [1], .null, [])),
  (59, (.iconst 1, 60, none, [], .int 1, [])),
  (60, (.aload_n 0, 61, none, [0], .null, [])),
  (61, (.getfield 80, 64, none, [7, 15, 0, 3238], .null, [])),
  (64, (.ishl, 65, none, [], .null, [])),
  (65, (.ior, 66, none, [], .null, [])),
  (66, (.iastore, 67, none, [], .null, [])),
  (67, (.aload_n 0, 68, none, [0], .null, [])),
  (68, (.getfield 16, 71, none, [7, 4, 2, 3227], .null, [])),
  (71, (.bipush 15, 73, none, [], .int 15, [])),
  (73, (.aload_n 0, 74, none, [0], .null, [])),
  (74, (.getfield 80, 77, none, [7, 15, 0, 3238], .null, [])),
  (77, (.iadd, 78, none, [], .null, [])),
  (78, (.dup2, 79, none, [], .null, [])),
  (79, (.iaload, 80, none, [1], .null, [])),
  (80, (.iconst 1, 81, none, [], .int 1, [])),
  (81, (.iload_n 1, 82, none, [1], .null, [])),
  (82, (.ishl, 83, none, [], .null, [])),
  (83, (.ior, 84, none, [], .null, [])),
  (84, (.iastore, 85, none, [], .null, [])),
  (85, (.iconst 1, 86, none, [], .int 1, [])),
  (86, (.ireturn, 87, none, [4], .null, []))]
def qm_13 : qM := (((⟨"PlushFlocksModel", "readsDoor", "()Z"⟩ : MethodName), prog_9_method_16_code, 2, (Option.some Jvm.ClassFile.FieldType.boolean)), ("PlushFlocksModel", 7, 1), [3218, 1007, 3217, 33, 1], qc_13)
/-- 14: PlushFlocksModel.readsItem()Z -/
def qc_14 : List (Nat × qI) := [(0, (.aload_n 0, 1, none, [0], .null, [])),
  (1, (.getfield 77, 4, none, [7, 13, 0, 3236], .null, [])),
  (4, (.iconst 1, 5, none, [], .int 1, [])),
  (5, (.if_icmp .ne 10, 8, none, [15], .null, [])),
  (8, (.aload_n 0, 9, none, [0], .null, [])),
  (9, (.getfield 80, 12, none, [7, 15, 0, 3238], .null, [])),
  (12, (.goto 4, 15, none, [16], .null, [])),
  (15, (.iconst 0, 16, none, [], .int 0, [])),
  (16, (.istore_n 1, 17, some [0], [1], .null, [])),
  (17, (.iload_n 1, 18, none, [1], .null, [])),
  (18, (.bipush 114, 20, none, [], .int 114, [])),
  (20, (.if_icmp .ne 12, 23, none, [32], .null, [])),
  (23, (.aload_n 0, 24, none, [0], .null, [])),
  (24, (.getfield 16, 27, none, [7, 4, 2, 3227], .null, [])),
  (27, (.iconst 0, 28, none, [], .int 0, [])),
  (28, (.iaload, 29, none, [1], .null, [])),
  (29, (.goto 9, 32, none, [38], .null, [])),
  (32, (.aload_n 0, 33, none, [0], .null, [])),
  (33, (.getfield 16, 36, none, [7, 4, 2, 3227], .null, [])),
  (36, (.iconst 1, 37, none, [], .int 1, [])),
  (37, (.iaload, 38, none, [1], .null, [])),
  (38, (.istore_n 2, 39, some [0, 1], [2], .null, [])),
  (39, (.iload_n 1, 40, none, [1], .null, [])),
  (40, (.lookupswitch 188 #[(100, 89), (102, 94), (110, 160), (114, 44)], 84, none, [228], .null, [(100, 129), (102, 134), (110, 200), (114, 84)])),
  (84, (.iload_n 2, 85, none, [2], .null, [])),
  (85, (.iconst 5, 86, none, [], .int 5, [])),
  (86, (.if_icmp .eq 29, 89, none, [115], .null, [])),
  (89, (.aload_n 0, 90, none, [0], .null, [])),
  (90, (.iconst 5, 91, none, [], .int 5, [])),
  (91, (.iload_n 2, 92, none, [2], .null, [])),
  (92, (.iadd, 93, none, [], .null, [])),
  (93, (.iconst 1, 94, none, [], .int 1, [])),
  (94, (.iconst 5, 95, none, [], .int 5, [])),
  (95, (.invokevirtual 90, 98, none, [12, 4, 1, 3207, 0], .null, [])),
  (98, (.ifCond .eq 17, 101, none, [115], .null, [])),
  (101, (.aload_n 0, 102, none, [0], .null, [])),
  (102, (.bipush 10, 104, none, [], .int 10, [])),
  (104, (.iload_n 2, 105, none, [2], .null, [])),
  (105, (.iadd, 106, none, [], .null, [])),
  (106, (.iconst 0, 107, none, [], .int 0, [])),
  (107, (.bipush 60, 109, none, [], .int 60, [])),
  (109, (.invokevirtual 90, 112, none, [12, 4, 1, 3207, 0], .null, [])),
  (112, (.ifCond .ne 5, 115, none, [117], .null, [])),
  (115, (.iconst 0, 116, some [], [], .int 0, [])),
  (116, (.ireturn, 117, none, [4], .null, [])),
  (117, (.aload_n 0, 118, none, [0], .null, [])),
  (118, (.getfield 16, 121, none, [7, 4, 2, 3227], .null, [])),
  (121, (.iconst 0, 122, none, [], .int 0, [])),
  (122, (.dup2, 123, none, [], .null, [])),
  (123, (.iaload, 124, none, [1], .null, [])),
  (124, (.iconst 1, 125, none, [], .int 1, [])),
  (125, (.iadd, 126, none, [], .null, [])),
  (126, (.iastore, 127, none, [], .null, [])),
  (127, (.iconst 1, 128, none, [], .int 1, [])),
  (128, (.ireturn, 129, none, [4], .null, [])),
  (129, (.aload_n 0, 130, none, [0], .null, [])),
  (130, (.invokevirtual 93, 133, none, [13, 1, 1, 3215, 0], .null, [])),
  (133, (.ireturn, 134, none, [4], .null, [])),
  (134, (.iload_n 2, 135, none, [2], .null, [])),
  (135, (.iconst 5, 136, none, [], .int 5, [])),
  (136, (.if_icmp .eq 50, 139, none, [186], .null, [])),
  (139, (.aload_n 0, 140, none, [0], .null, [])),
  (140, (.bipush 20, 142, none, [], .int 20, [])),
  (142, (.iload_n 2, 143, none, [2], .null, [])),
  (143, (.iadd, 144, none, [], .null, [])),
  (144, (.iconst 0, 145, none, [], .int 0, [])),
  (145, (.aload_n 0, 146, none, [0], .null, [])),
  (146, (.getfield 16, 149, none, [7, 4, 2, 3227], .null, [])),
  (149, (.iconst 0, 150, none, [], .int 0, [])),
  (150, (.iaload, 151, none, [1], .null, [])),
  (151, (.iconst 1, 152, none, [], .int 1, [])),
  (152, (.isub, 153, none, [], .null, [])),
  (153, (.invokevirtual 90, 156, none, [12, 4, 1, 3207, 0], .null, [])),
  (156, (.ifCond .eq 30, 159, none, [186], .null, [])),
  (159, (.aload_n 0, 160, none, [0], .null, [])),
  (160, (.bipush 25, 162, none, [], .int 25, [])),
  (162, (.iload_n 2, 163, none, [2], .null, [])),
  (163, (.iadd, 164, none, [], .null, [])),
  (164, (.iconst 1, 165, none, [], .int 1, [])),
  (165, (.bipush 9, 167, none, [], .int 9, [])),
  (167, (.invokevirtual 90, 170, none, [12, 4, 1, 3207, 0], .null, [])),
  (170, (.ifCond .eq 16, 173, none, [186], .null, [])),
  (173, (.aload_n 0, 174, none, [0], .null, [])),
  (174, (.bipush 30, 176, none, [], .int 30, [])),
  (176, (.iload_n 2, 177, none, [2], .null, [])),
  (177, (.iadd, 178, none, [], .null, [])),
  (178, (.iconst 0, 179, none, [], .int 0, [])),
  (179, (.iconst 2, 180, none, [], .int 2, [])),
  (180, (.invokevirtual 90, 183, none, [12, 4, 1, 3207, 0], .null, [])),
  (183, (.ifCond .ne 5, 186, none, [188], .null, [])),
  (186, (.iconst 0, 187, some [], [], .int 0, [])),
  (187, (.ireturn, 188, none, [4], .null, [])),
  (188, (.aload_n 0, 189, none, [0], .null, [])),
  (189, (.getfield 16, 192, none, [7, 4, 2, 3227], .null, [])),
  (192, (.iconst 1, 193, none, [], .int 1, [])),
  (193, (.dup2, 194, none, [], .null, [])),
  (194, (.iaload, 195, none, [1], .null, [])),
  (195, (.iconst 1, 196, none, [], .int 1, [])),
  (196, (.iadd, 197, none, [], .null, [])),
  (197, (.iastore, 198, none, [], .null, [])),
  (198, (.iconst 1, 199, none, [], .int 1, [])),
  (199, (.ireturn, 200, none, [4], .null, [])),
  (200, (.aload_n 0, 201, none, [0], .null, [])),
  (201, (.getfield 16, 204, none, [7, 4, 2, 3227], .null, [])),
  (204, (.iconst 4, 205, none, [], .int 4, [])),
  (205, (.iaload, 206, none, [1], .null, [])),
  (206, (.iconst 1, 207, none, [], .int 1, [])),
  (207, (.if_icmp .ne 5, 210, none, [212], .null, [])),
  (210, (.iconst 0, 211, none, [], .int 0, [])),
  (211, (.ireturn, 212, none, [4], .null, [])),
  (212, (.aload_n 0, 213, none, [0], .null, [])),
  (213, (.getfield 16, 216, none, [7, 4, 2, 3227], .null, [])),
  (216, (.iconst 4, 217, none, [], .int 4, [])),
  (217, (.iconst 1, 218, none, [], .int 1, [])),
  (218, (.iastore, 219, none, [], .null, [])),
  (219, (.aload_n 0, 220, none, [0], .null, [])),
  (220, (.iconst 2, 221, none, [], .int 2, [])),
  (221, (.iconst 1, 222, none, [], .int 1, [])),
  (222, (.bipush 99, 224, none, [], .int 99, [])),
  (224, (.invokevirtual 90, 227, none, [12, 4, 1, 3207, 0], .null, [])),
  (227, (.ireturn, 228, none, [4], .null, [])),
  (228, (.iconst 0, 229, none, [], .int 0, [])),
  (229, (.ireturn, 230, none, [4], .null, []))]
def qm_14 : qM := (((⟨"PlushFlocksModel", "readsItem", "()Z"⟩ : MethodName), prog_9_method_17_code, 3, (Option.some Jvm.ClassFile.FieldType.boolean)), ("PlushFlocksModel", 7, 1), [3206, 1007, 3205, 30, 1], qc_14)
/-- 15: PlushFlocksModel.reads()Z -/
def qc_15 : List (Nat × qI) := [(0, (.iconst 0, 1, none, [], .int 0, [])),
  (1, (.istore_n 1, 2, none, [1], .null, [])),
  (2, (.iload_n 1, 3, some [0, 1], [1], .null, [])),
  (3, (.bipush 35, 5, none, [], .int 35, [])),
  (5, (.if_icmp .ge 16, 8, none, [21], .null, [])),
  (8, (.aload_n 0, 9, none, [0], .null, [])),
  (9, (.getfield 16, 12, none, [7, 4, 2, 3227], .null, [])),
  (12, (.iload_n 1, 13, none, [1], .null, [])),
  (13, (.iconst 0, 14, none, [], .int 0, [])),
  (14, (.iastore, 15, none, [], .null, [])),
  (15, (.iinc 1 1, 18, none, [1], .int 1, [])),
  (18, (.goto (-16), 21, none, [2], .null, [])),
  (21, (.aload_n 0, 22, none, [0], .null, [])),
  (22, (.getfield 16, 25, none, [7, 4, 2, 3227], .null, [])),
  (25, (.iconst 2, 26, none, [], .int 2, [])),
  (26, (.bipush 20, 28, none, [], .int 20, [])),
  (28, (.iastore, 29, none, [], .null, [])),
  (29, (.aload_n 0, 30, none, [0], .null, [])),
  (30, (.iconst 0, 31, none, [], .int 0, [])),
  (31, (.putfield 60, 34, none, [7, 12, 0, 3235], .null, [])),
  (34, (.aload_n 0, 35, none, [0], .null, [])),
  (35, (.invokevirtual 83, 38, none, [10, 1, 0, 3186, 0], .null, [])),
  (38, (.aload_n 0, 39, some [0], [0], .null, [])),
  (39, (.getfield 77, 42, none, [7, 13, 0, 3236], .null, [])),
  (42, (.ifCond .eq 43, 45, none, [85], .null, [])),
  (45, (.aload_n 0, 46, none, [0], .null, [])),
  (46, (.invokevirtual 96, 49, none, [14, 1, 1, 3203, 0], .null, [])),
  (49, (.ifCond .ne 5, 52, none, [54], .null, [])),
  (52, (.iconst 0, 53, none, [], .int 0, [])),
  (53, (.ireturn, 54, none, [4], .null, [])),
  (54, (.aload_n 0, 55, none, [0], .null, [])),
  (55, (.invokevirtual 83, 58, none, [10, 1, 0, 3186, 0], .null, [])),
  (58, (.aload_n 0, 59, none, [0], .null, [])),
  (59, (.getfield 77, 62, none, [7, 13, 0, 3236], .null, [])),
  (62, (.iconst 3, 63, none, [], .int 3, [])),
  (63, (.if_icmp .eq 5, 66, none, [68], .null, [])),
  (66, (.iconst 0, 67, none, [], .int 0, [])),
  (67, (.ireturn, 68, none, [4], .null, [])),
  (68, (.aload_n 0, 69, none, [0], .null, [])),
  (69, (.getfield 16, 72, none, [7, 4, 2, 3227], .null, [])),
  (72, (.iconst 3, 73, none, [], .int 3, [])),
  (73, (.dup2, 74, none, [], .null, [])),
  (74, (.iaload, 75, none, [1], .null, [])),
  (75, (.iconst 1, 76, none, [], .int 1, [])),
  (76, (.iadd, 77, none, [], .null, [])),
  (77, (.iastore, 78, none, [], .null, [])),
  (78, (.aload_n 0, 79, none, [0], .null, [])),
  (79, (.invokevirtual 83, 82, none, [10, 1, 0, 3186, 0], .null, [])),
  (82, (.goto (-44), 85, none, [38], .null, [])),
  (85, (.iconst 1, 86, none, [], .int 1, [])),
  (86, (.ireturn, 87, none, [4], .null, []))]
def qm_15 : qM := (((⟨"PlushFlocksModel", "reads", "()Z"⟩ : MethodName), prog_9_method_18_code, 2, (Option.some Jvm.ClassFile.FieldType.boolean)), ("PlushFlocksModel", 7, 1), [3185, 1007, 3184, 27, 1], qc_15)
/-- 16: PlushFlocksModel.begins()V -/
def qc_16 : List (Nat × qI) := [(0, (.iconst 0, 1, none, [], .int 0, [])),
  (1, (.istore_n 1, 2, none, [1], .null, [])),
  (2, (.iload_n 1, 3, some [0, 1], [1], .null, [])),
  (3, (.bipush 35, 5, none, [], .int 35, [])),
  (5, (.if_icmp .ge 21, 8, none, [26], .null, [])),
  (8, (.aload_n 0, 9, none, [0], .null, [])),
  (9, (.getfield 13, 12, none, [7, 3, 2, 3226], .null, [])),
  (12, (.iload_n 1, 13, none, [1], .null, [])),
  (13, (.aload_n 0, 14, none, [0], .null, [])),
  (14, (.getfield 16, 17, none, [7, 4, 2, 3227], .null, [])),
  (17, (.iload_n 1, 18, none, [1], .null, [])),
  (18, (.iaload, 19, none, [1], .null, [])),
  (19, (.iastore, 20, none, [], .null, [])),
  (20, (.iinc 1 1, 23, none, [1], .int 1, [])),
  (23, (.goto (-21), 26, none, [2], .null, [])),
  (26, (.iconst 0, 27, none, [], .int 0, [])),
  (27, (.istore_n 1, 28, none, [1], .null, [])),
  (28, (.iload_n 1, 29, some [0, 1], [1], .null, [])),
  (29, (.bipush 22, 31, none, [], .int 22, [])),
  (31, (.if_icmp .ge 59, 34, none, [90], .null, [])),
  (34, (.aload_n 0, 35, none, [0], .null, [])),
  (35, (.getfield 19, 38, none, [7, 5, 2, 3228], .null, [])),
  (38, (.iload_n 1, 39, none, [1], .null, [])),
  (39, (.iload_n 1, 40, none, [1], .null, [])),
  (40, (.iconst 5, 41, none, [], .int 5, [])),
  (41, (.if_icmp .ge 15, 44, none, [56], .null, [])),
  (44, (.aload_n 0, 45, none, [0], .null, [])),
  (45, (.getfield 13, 48, none, [7, 3, 2, 3226], .null, [])),
  (48, (.bipush 20, 50, none, [], .int 20, [])),
  (50, (.iload_n 1, 51, none, [1], .null, [])),
  (51, (.iadd, 52, none, [], .null, [])),
  (52, (.iaload, 53, none, [1], .null, [])),
  (53, (.goto 30, 56, none, [83], .null, [])),
  (56, (.iload_n 1, 57, none, [1], .null, [])),
  (57, (.bipush 15, 59, none, [], .int 15, [])),
  (59, (.bipush 19, 61, none, [], .int 19, [])),
  (61, (.invokestatic 52, 64, none, [8, 3, 1, 3200, 0], .null, [])),
  (64, (.ifCond .eq 18, 67, none, [82], .null, [])),
  (67, (.aload_n 0, 68, none, [0], .null, [])),
  (68, (.getfield 13, 71, none, [7, 3, 2, 3226], .null, [])),
  (71, (.bipush 10, 73, none, [], .int 10, [])),
  (73, (.iload_n 1, 74, none, [1], .null, [])),
  (74, (.iadd, 75, none, [], .null, [])),
  (75, (.bipush 15, 77, none, [], .int 15, [])),
  (77, (.isub, 78, none, [], .null, [])),
  (78, (.iaload, 79, none, [1], .null, [])),
  (79, (.goto 4, 82, none, [83], .null, [])),
  (82, (.iconst 0, 83, none, [], .int 0, [])),
  (83, (.iastore, 84, some [0, 1], [], .null, [])),
  (84, (.iinc 1 1, 87, none, [1], .int 1, [])),
  (87, (.goto (-59), 90, none, [28], .null, [])),
  (90, (.aload_n 0, 91, none, [0], .null, [])),
  (91, (.iconst 0, 92, none, [], .int 0, [])),
  (92, (.putfield 99, 95, none, [7, 7, 0, 3230], .null, [])),
  (95, (.aload_n 0, 96, none, [0], .null, [])),
  (96, (.iconst 0, 97, none, [], .int 0, [])),
  (97, (.putfield 102, 100, none, [7, 11, 0, 3234], .null, [])),
  (100, (.aload_n 0, 101, none, [0], .null, [])),
  (101, (.getfield 28, 104, none, [7, 9, 2, 3232], .null, [])),
  (104, (.iconst 0, 105, none, [], .int 0, [])),
  (105, (.iconst 0, 106, none, [], .int 0, [])),
  (106, (.bastore, 107, none, [], .null, [])),
  (107, (.aload_n 0, 108, none, [0], .null, [])),
  (108, (.getfield 28, 111, none, [7, 9, 2, 3232], .null, [])),
  (111, (.iconst 1, 112, none, [], .int 1, [])),
  (112, (.iconst 0, 113, none, [], .int 0, [])),
  (113, (.bastore, 114, none, [], .null, [])),
  (114, (.return_, 115, none, [], .null, []))]
def qm_16 : qM := (((⟨"PlushFlocksModel", "begins", "()V"⟩ : MethodName), prog_9_method_19_code, 2, (Option.none : Option Jvm.ClassFile.FieldType)), ("PlushFlocksModel", 7, 1), [3222, 1007, 3221, 34, 1], qc_16)
/-- 17: PlushFlocksModel.<init>()V -/
def qc_17 : List (Nat × qI) := [(0, (.aload_n 0, 1, none, [0], .null, [])),
  (1, (.invokespecial 1, 4, none, [999, 0, 0, 3181], .null, [])),
  (4, (.aload_n 0, 5, none, [0], .null, [])),
  (5, (.bipush 120, 7, none, [], .int 120, [])),
  (7, (.newarray .int, 9, none, [1, 1191], .null, [])),
  (9, (.putfield 7, 12, none, [7, 1, 2, 3224], .null, [])),
  (12, (.aload_n 0, 13, none, [0], .null, [])),
  (13, (.bipush 35, 15, none, [], .int 35, [])),
  (15, (.newarray .int, 17, none, [1, 1191], .null, [])),
  (17, (.putfield 13, 20, none, [7, 3, 2, 3226], .null, [])),
  (20, (.aload_n 0, 21, none, [0], .null, [])),
  (21, (.bipush 35, 23, none, [], .int 35, [])),
  (23, (.newarray .int, 25, none, [1, 1191], .null, [])),
  (25, (.putfield 16, 28, none, [7, 4, 2, 3227], .null, [])),
  (28, (.aload_n 0, 29, none, [0], .null, [])),
  (29, (.bipush 22, 31, none, [], .int 22, [])),
  (31, (.newarray .int, 33, none, [1, 1191], .null, [])),
  (33, (.putfield 19, 36, none, [7, 5, 2, 3228], .null, [])),
  (36, (.aload_n 0, 37, none, [0], .null, [])),
  (37, (.sipush 220, 40, none, [], .int 220, [])),
  (40, (.newarray .int, 42, none, [1, 1191], .null, [])),
  (42, (.putfield 22, 45, none, [7, 6, 2, 3229], .null, [])),
  (45, (.aload_n 0, 46, none, [0], .null, [])),
  (46, (.bipush 44, 48, none, [], .int 44, [])),
  (48, (.newarray .int, 50, none, [1, 1191], .null, [])),
  (50, (.putfield 25, 53, none, [7, 8, 2, 3231], .null, [])),
  (53, (.aload_n 0, 54, none, [0], .null, [])),
  (54, (.iconst 2, 55, none, [], .int 2, [])),
  (55, (.newarray .boolean, 57, none, [3, 4041], .null, [])),
  (57, (.putfield 28, 60, none, [7, 9, 2, 3232], .null, [])),
  (60, (.aload_n 0, 61, none, [0], .null, [])),
  (61, (.bipush 12, 63, none, [], .int 12, [])),
  (63, (.newarray .int, 65, none, [1, 1191], .null, [])),
  (65, (.putfield 32, 68, none, [7, 10, 2, 3233], .null, [])),
  (68, (.aload_n 0, 69, none, [0], .null, [])),
  (69, (.bipush 22, 71, none, [], .int 22, [])),
  (71, (.newarray .int, 73, none, [1, 1191], .null, [])),
  (73, (.putfield 35, 76, none, [7, 16, 2, 3239], .null, [])),
  (76, (.aload_n 0, 77, none, [0], .null, [])),
  (77, (.bipush 49, 79, none, [], .int 49, [])),
  (79, (.newarray .long, 81, none, [2, 1192], .null, [])),
  (81, (.putfield 38, 84, none, [7, 17, 2, 4000], .null, [])),
  (84, (.aload_n 0, 85, none, [0], .null, [])),
  (85, (.bipush 49, 87, none, [], .int 49, [])),
  (87, (.newarray .long, 89, none, [2, 1192], .null, [])),
  (89, (.putfield 42, 92, none, [7, 18, 2, 4001], .null, [])),
  (92, (.aload_n 0, 93, none, [0], .null, [])),
  (93, (.invokevirtual 45, 96, none, [15, 1, 1, 3182, 0], .null, [])),
  (96, (.pop, 97, none, [], .null, [])),
  (97, (.aload_n 0, 98, none, [0], .null, [])),
  (98, (.invokevirtual 49, 101, none, [16, 1, 0, 3219, 0], .null, [])),
  (101, (.return_, 102, none, [], .null, []))]
def qm_17 : qM := (((⟨"PlushFlocksModel", "<init>", "()V"⟩ : MethodName), prog_9_method_1_code, 1, (Option.none : Option Jvm.ClassFile.FieldType)), ("PlushFlocksModel", 7, 2), [3180, 1007, 3179, 0, 1], qc_17)
/-- 18: PlushFlocks.type(I)I -/
def qc_18 : List (Nat × qI) := [(0, (.iload_n 1, 1, none, [1], .null, [])),
  (1, (.ifCond .lt 10, 4, none, [11], .null, [])),
  (4, (.iload_n 1, 5, none, [1], .null, [])),
  (5, (.sipush 255, 8, none, [], .int 255, [])),
  (8, (.if_icmp .le 5, 11, none, [13], .null, [])),
  (11, (.iconst (-1), 12, some [], [], .int (-1), [])),
  (12, (.ireturn, 13, none, [0], .null, [])),
  (13, (.aload_n 0, 14, none, [0], .null, [])),
  (14, (.getfield 13, 17, none, [6, 1, 0, 1194], .null, [])),
  (17, (.ifCond .lt 15, 20, none, [32], .null, [])),
  (20, (.aload_n 0, 21, none, [0], .null, [])),
  (21, (.getfield 13, 24, none, [6, 1, 0, 1194], .null, [])),
  (24, (.aload_n 0, 25, none, [0], .null, [])),
  (25, (.getfield 9, 28, none, [6, 0, 2, 1193], .null, [])),
  (28, (.arraylength, 29, none, [0], .null, [])),
  (29, (.if_icmp .lt 6, 32, none, [35], .null, [])),
  (32, (.bipush (-3), 34, some [], [], .int (-3), [])),
  (34, (.ireturn, 35, none, [0], .null, [])),
  (35, (.aload_n 0, 36, none, [0], .null, [])),
  (36, (.getfield 9, 39, none, [6, 0, 2, 1193], .null, [])),
  (39, (.aload_n 0, 40, none, [0], .null, [])),
  (40, (.getfield 13, 43, none, [6, 1, 0, 1194], .null, [])),
  (43, (.iload_n 1, 44, none, [1], .null, [])),
  (44, (.i2c, 45, none, [], .null, [])),
  (45, (.castore, 46, none, [], .null, [])),
  (46, (.aload_n 0, 47, none, [0], .null, [])),
  (47, (.dup, 48, none, [], .null, [])),
  (48, (.getfield 13, 51, none, [6, 1, 0, 1194], .null, [])),
  (51, (.iconst 1, 52, none, [], .int 1, [])),
  (52, (.iadd, 53, none, [], .null, [])),
  (53, (.putfield 13, 56, none, [6, 1, 0, 1194], .null, [])),
  (56, (.aload_n 0, 57, none, [0], .null, [])),
  (57, (.getfield 13, 60, none, [6, 1, 0, 1194], .null, [])),
  (60, (.ireturn, 61, none, [0], .null, []))]
def qm_18 : qM := (((⟨"PlushFlocks", "type", "(I)I"⟩ : MethodName), prog_1_method_2_code, 2, (Option.some Jvm.ClassFile.FieldType.int)), ("PlushFlocks", 6, 1), [1230, 1001, 1228, 1229, 2], qc_18)
/-- 19: PlushFlocksModel.type(I)I -/
def qc_19 : List (Nat × qI) := [(0, (.iload_n 1, 1, none, [1], .null, [])),
  (1, (.iconst 0, 2, none, [], .int 0, [])),
  (2, (.sipush 255, 5, none, [], .int 255, [])),
  (5, (.invokestatic 52, 8, none, [8, 3, 1, 3200, 0], .null, [])),
  (8, (.ifCond .ne 5, 11, none, [13], .null, [])),
  (11, (.iconst (-1), 12, none, [], .int (-1), [])),
  (12, (.ireturn, 13, none, [0], .null, [])),
  (13, (.aload_n 0, 14, none, [0], .null, [])),
  (14, (.getfield 56, 17, none, [7, 2, 0, 3225], .null, [])),
  (17, (.bipush 120, 19, none, [], .int 120, [])),
  (19, (.if_icmp .ne 6, 22, none, [25], .null, [])),
  (22, (.bipush (-3), 24, none, [], .int (-3), [])),
  (24, (.ireturn, 25, none, [0], .null, [])),
  (25, (.aload_n 0, 26, none, [0], .null, [])),
  (26, (.getfield 7, 29, none, [7, 1, 2, 3224], .null, [])),
  (29, (.aload_n 0, 30, none, [0], .null, [])),
  (30, (.getfield 56, 33, none, [7, 2, 0, 3225], .null, [])),
  (33, (.iload_n 1, 34, none, [1], .null, [])),
  (34, (.iastore, 35, none, [], .null, [])),
  (35, (.aload_n 0, 36, none, [0], .null, [])),
  (36, (.dup, 37, none, [], .null, [])),
  (37, (.getfield 56, 40, none, [7, 2, 0, 3225], .null, [])),
  (40, (.iconst 1, 41, none, [], .int 1, [])),
  (41, (.iadd, 42, none, [], .null, [])),
  (42, (.putfield 56, 45, none, [7, 2, 0, 3225], .null, [])),
  (45, (.aload_n 0, 46, none, [0], .null, [])),
  (46, (.getfield 56, 49, none, [7, 2, 0, 3225], .null, [])),
  (49, (.ireturn, 50, none, [0], .null, []))]
def qm_19 : qM := (((⟨"PlushFlocksModel", "type", "(I)I"⟩ : MethodName), prog_9_method_8_code, 2, (Option.some Jvm.ClassFile.FieldType.int)), ("PlushFlocksModel", 7, 1), [4045, 1007, 4043, 4044, 2], qc_19)
/-- 20: PlushFlocks.clear()I -/
def qc_20 : List (Nat × qI) := [(0, (.aload_n 0, 1, none, [0], .null, [])),
  (1, (.getfield 13, 4, none, [6, 1, 0, 1194], .null, [])),
  (4, (.istore_n 1, 5, none, [1], .null, [])),
  (5, (.aload_n 0, 6, none, [0], .null, [])),
  (6, (.iconst 0, 7, none, [], .int 0, [])),
  (7, (.putfield 13, 10, none, [6, 1, 0, 1194], .null, [])),
  (10, (.iload_n 1, 11, none, [1], .null, [])),
  (11, (.ireturn, 12, none, [0], .null, []))]
def qm_20 : qM := (((⟨"PlushFlocks", "clear", "()I"⟩ : MethodName), prog_1_method_3_code, 2, (Option.some Jvm.ClassFile.FieldType.int)), ("PlushFlocks", 6, 1), [1234, 1001, 1232, 1233, 1], qc_20)
/-- 21: PlushFlocksModel.clear()I -/
def qc_21 : List (Nat × qI) := [(0, (.aload_n 0, 1, none, [0], .null, [])),
  (1, (.getfield 56, 4, none, [7, 2, 0, 3225], .null, [])),
  (4, (.istore_n 1, 5, none, [1], .null, [])),
  (5, (.aload_n 0, 6, none, [0], .null, [])),
  (6, (.iconst 0, 7, none, [], .int 0, [])),
  (7, (.putfield 56, 10, none, [7, 2, 0, 3225], .null, [])),
  (10, (.iload_n 1, 11, none, [1], .null, [])),
  (11, (.ireturn, 12, none, [0], .null, []))]
def qm_21 : qM := (((⟨"PlushFlocksModel", "clear", "()I"⟩ : MethodName), prog_9_method_9_code, 2, (Option.some Jvm.ClassFile.FieldType.int)), ("PlushFlocksModel", 7, 1), [4049, 1007, 4047, 4048, 1], qc_21)
/-- 22: PlushFlocks$Reader.<init>([CI)V -/
def qc_22 : List (Nat × qI) := [(0, (.aload_n 0, 1, none, [0], .null, [])),
  (1, (.invokespecial 3, 4, none, [999, 0, 0, 2004], .null, [])),
  (4, (.aload_n 0, 5, none, [0], .null, [])),
  (5, (.bipush 32, 7, none, [], .int 32, [])),
  (7, (.putfield 9, 10, none, [4, 2, 3, 2012], .null, [])),
  (10, (.aload_n 0, 11, none, [0], .null, [])),
  (11, (.iconst 0, 12, none, [], .int 0, [])),
  (12, (.putfield 15, 15, none, [4, 3, 0, 2013], .null, [])),
  (15, (.aload_n 0, 16, none, [0], .null, [])),
  (16, (.iconst 0, 17, none, [], .int 0, [])),
  (17, (.putfield 19, 20, none, [4, 4, 0, 2014], .null, [])),
  (20, (.aload_n 0, 21, none, [0], .null, [])),
  (21, (.iconst 0, 22, none, [], .int 0, [])),
  (22, (.putfield 22, 25, none, [4, 5, 0, 2015], .null, [])),
  (25, (.aload_n 0, 26, none, [0], .null, [])),
  (26, (.iconst 0, 27, none, [], .int 0, [])),
  (27, (.putfield 25, 30, none, [4, 6, 0, 2016], .null, [])),
  (30, (.aload_n 0, 31, none, [0], .null, [])),
  (31, (.iconst 0, 32, none, [], .int 0, [])),
  (32, (.putfield 28, 35, none, [4, 7, 0, 2017], .null, [])),
  (35, (.aload_n 0, 36, none, [0], .null, [])),
  (36, (.new 31, 39, none, [3, 10, 2005, 1021, 1002], .null, [])),
  (39, (.dup, 40, none, [], .null, [])),
  (40, (.invokespecial 33, 43, none, [0, 1, 0, 5, 1], .null, [])),
  (43, (.putfield 34, 46, none, [4, 8, 2, 2019], .null, [])),
  (46, (.aload_n 0, 47, none, [0], .null, [])),
  (47, (.aload_n 1, 48, none, [1], .null, [])),
  (48, (.putfield 38, 51, none, [4, 0, 2, 2010], .null, [])),
  (51, (.aload_n 0, 52, none, [0], .null, [])),
  (52, (.iload_n 2, 53, none, [2], .null, [])),
  (53, (.aload_n 1, 54, none, [1], .null, [])),
  (54, (.arraylength, 55, none, [0], .null, [])),
  (55, (.invokestatic 42, 58, none, [997, 2, 1, 2007, 0], .null, [])),
  (58, (.putfield 48, 61, none, [4, 1, 0, 2011], .null, [])),
  (61, (.return_, 62, none, [], .null, []))]
def qm_22 : qM := (((⟨"PlushFlocks$Reader", "<init>", "([CI)V"⟩ : MethodName), prog_6_method_1_code, 3, (Option.none : Option Jvm.ClassFile.FieldType)), ("PlushFlocks$Reader", 4, 2), [2003, 1008, 2002, 0, 3], qc_22)
/-- 23: PlushFlocks$Reader.letterAt(I)C -/
def qc_23 : List (Nat × qI) := [(0, (.iload_n 1, 1, none, [1], .null, [])),
  (1, (.ifCond .lt 20, 4, none, [21], .null, [])),
  (4, (.iload_n 1, 5, none, [1], .null, [])),
  (5, (.aload_n 0, 6, none, [0], .null, [])),
  (6, (.getfield 48, 9, none, [4, 1, 0, 2011], .null, [])),
  (9, (.if_icmp .ge 12, 12, none, [21], .null, [])),
  (12, (.iload_n 1, 13, none, [1], .null, [])),
  (13, (.aload_n 0, 14, none, [0], .null, [])),
  (14, (.getfield 38, 17, none, [4, 0, 2, 2010], .null, [])),
  (17, (.arraylength, 18, none, [0], .null, [])),
  (18, (.if_icmp .lt 8, 21, none, [26], .null, [])),
  (21, (.bipush 32, 23, some [], [], .int 32, [])),
  (23, (.goto 9, 26, none, [32], .null, [])),
  (26, (.aload_n 0, 27, none, [0], .null, [])),
  (27, (.getfield 38, 30, none, [4, 0, 2, 2010], .null, [])),
  (30, (.iload_n 1, 31, none, [1], .null, [])),
  (31, (.caload, 32, none, [], .null, [])),
  (32, (.ireturn, 33, some [], [3], .null, []))]
def qm_23 : qM := (((⟨"PlushFlocks$Reader", "letterAt", "(I)C"⟩ : MethodName), prog_6_method_3_code, 2, (Option.some Jvm.ClassFile.FieldType.char)), ("PlushFlocks$Reader", 4, 1), [2051, 1008, 2050, 1, 2], qc_23)
/-- 24: PlushFlocks$Reader.isDigit(I)Z -/
def qc_24 : List (Nat × qI) := [(0, (.aload_n 0, 1, none, [0], .null, [])),
  (1, (.iload_n 1, 2, none, [1], .null, [])),
  (2, (.invokevirtual 58, 5, none, [23, 2, 1, 2048, 0], .null, [])),
  (5, (.istore_n 2, 6, none, [2], .null, [])),
  (6, (.iload_n 2, 7, none, [2], .null, [])),
  (7, (.bipush 48, 9, none, [], .int 48, [])),
  (9, (.if_icmp .lt 13, 12, none, [22], .null, [])),
  (12, (.iload_n 2, 13, none, [2], .null, [])),
  (13, (.bipush 57, 15, none, [], .int 57, [])),
  (15, (.if_icmp .gt 7, 18, none, [22], .null, [])),
  (18, (.iconst 1, 19, none, [], .int 1, [])),
  (19, (.goto 4, 22, none, [23], .null, [])),
  (22, (.iconst 0, 23, some [], [], .int 0, [])),
  (23, (.ireturn, 24, some [], [4], .null, []))]
def qm_24 : qM := (((⟨"PlushFlocks$Reader", "isDigit", "(I)Z"⟩ : MethodName), prog_6_method_4_code, 3, (Option.some Jvm.ClassFile.FieldType.boolean)), ("PlushFlocks$Reader", 4, 1), [2055, 1008, 2054, 2, 2], qc_24)
/-- 25: PlushFlocks$Reader.isTokenStart(I)Z -/
def qc_25 : List (Nat × qI) := [(0, (.aload_n 0, 1, none, [0], .null, [])),
  (1, (.iload_n 1, 2, none, [1], .null, [])),
  (2, (.invokevirtual 58, 5, none, [23, 2, 1, 2048, 0], .null, [])),
  (5, (.bipush 32, 7, none, [], .int 32, [])),
  (7, (.if_icmp .eq 25, 10, none, [32], .null, [])),
  (10, (.aload_n 0, 11, none, [0], .null, [])),
  (11, (.iload_n 1, 12, none, [1], .null, [])),
  (12, (.invokevirtual 62, 15, none, [24, 2, 1, 2052, 0], .null, [])),
  (15, (.ifCond .eq 13, 18, none, [28], .null, [])),
  (18, (.aload_n 0, 19, none, [0], .null, [])),
  (19, (.iload_n 1, 20, none, [1], .null, [])),
  (20, (.iconst 1, 21, none, [], .int 1, [])),
  (21, (.isub, 22, none, [], .null, [])),
  (22, (.invokevirtual 62, 25, none, [24, 2, 1, 2052, 0], .null, [])),
  (25, (.ifCond .ne 7, 28, none, [32], .null, [])),
  (28, (.iconst 1, 29, some [], [], .int 1, [])),
  (29, (.goto 4, 32, none, [33], .null, [])),
  (32, (.iconst 0, 33, some [], [], .int 0, [])),
  (33, (.ireturn, 34, some [], [4], .null, []))]
def qm_25 : qM := (((⟨"PlushFlocks$Reader", "isTokenStart", "(I)Z"⟩ : MethodName), prog_6_method_5_code, 2, (Option.some Jvm.ClassFile.FieldType.boolean)), ("PlushFlocks$Reader", 4, 1), [2047, 1008, 2046, 0, 2], qc_25)
/-- 26: PlushFlocks$Reader.numberAt(I)I -/
def qc_26 : List (Nat × qI) := [(0, (.aload_n 0, 1, none, [0], .null, [])),
  (1, (.iload_n 1, 2, none, [1], .null, [])),
  (2, (.invokevirtual 58, 5, none, [23, 2, 1, 2048, 0], .null, [])),
  (5, (.bipush 48, 7, none, [], .int 48, [])),
  (7, (.isub, 8, none, [], .null, [])),
  (8, (.istore_n 2, 9, none, [2], .null, [])),
  (9, (.aload_n 0, 10, none, [0], .null, [])),
  (10, (.iload_n 1, 11, none, [1], .null, [])),
  (11, (.iconst 1, 12, none, [], .int 1, [])),
  (12, (.iadd, 13, none, [], .null, [])),
  (13, (.invokevirtual 62, 16, none, [24, 2, 1, 2052, 0], .null, [])),
  (16, (.ifCond .ne 5, 19, none, [21], .null, [])),
  (19, (.iload_n 2, 20, none, [2], .null, [])),
  (20, (.ireturn, 21, none, [0], .null, [])),
  (21, (.iload_n 2, 22, none, [2], .null, [])),
  (22, (.ifCond .eq 13, 25, none, [35], .null, [])),
  (25, (.aload_n 0, 26, none, [0], .null, [])),
  (26, (.iload_n 1, 27, none, [1], .null, [])),
  (27, (.iconst 2, 28, none, [], .int 2, [])),
  (28, (.iadd, 29, none, [], .null, [])),
  (29, (.invokevirtual 62, 32, none, [24, 2, 1, 2052, 0], .null, [])),
  (32, (.ifCond .eq 5, 35, none, [37], .null, [])),
  (35, (.iconst (-1), 36, some [], [], .int (-1), [])),
  (36, (.ireturn, 37, none, [0], .null, [])),
  (37, (.bipush 10, 39, none, [], .int 10, [])),
  (39, (.iload_n 2, 40, none, [2], .null, [])),
  (40, (.imul, 41, none, [], .null, [])),
  (41, (.aload_n 0, 42, none, [0], .null, [])),
  (42, (.iload_n 1, 43, none, [1], .null, [])),
  (43, (.iconst 1, 44, none, [], .int 1, [])),
  (44, (.iadd, 45, none, [], .null, [])),
  (45, (.invokevirtual 58, 48, none, [23, 2, 1, 2048, 0], .null, [])),
  (48, (.iadd, 49, none, [], .null, [])),
  (49, (.bipush 48, 51, none, [], .int 48, [])),
  (51, (.isub, 52, none, [], .null, [])),
  (52, (.ireturn, 53, none, [0], .null, []))]
def qm_26 : qM := (((⟨"PlushFlocks$Reader", "numberAt", "(I)I"⟩ : MethodName), prog_6_method_7_code, 3, (Option.some Jvm.ClassFile.FieldType.int)), ("PlushFlocks$Reader", 4, 1), [2063, 1008, 2062, 4, 2], qc_26)
/-- 27: PlushFlocks$Reader.mayTellRoom(I)Z -/
def qc_27 : List (Nat × qI) := [(0, (.aload_n 0, 1, none, [0], .null, [])),
  (1, (.getfield 15, 4, none, [4, 3, 0, 2013], .null, [])),
  (4, (.lookupswitch 56 #[(0, 28), (1, 44)], 32, none, [60], .null, [(0, 32), (1, 48)])),
  (32, (.iload_n 1, 33, none, [1], .null, [])),
  (33, (.iconst 1, 34, none, [], .int 1, [])),
  (34, (.if_icmp .lt 12, 37, none, [46], .null, [])),
  (37, (.iload_n 1, 38, none, [1], .null, [])),
  (38, (.iconst 5, 39, none, [], .int 5, [])),
  (39, (.if_icmp .gt 7, 42, none, [46], .null, [])),
  (42, (.iconst 1, 43, none, [], .int 1, [])),
  (43, (.goto 4, 46, none, [47], .null, [])),
  (46, (.iconst 0, 47, some [], [], .int 0, [])),
  (47, (.ireturn, 48, some [], [4], .null, [])),
  (48, (.iload_n 1, 49, none, [1], .null, [])),
  (49, (.bipush 60, 51, none, [], .int 60, [])),
  (51, (.if_icmp .gt 7, 54, none, [58], .null, [])),
  (54, (.iconst 1, 55, none, [], .int 1, [])),
  (55, (.goto 4, 58, none, [59], .null, [])),
  (58, (.iconst 0, 59, none, [], .int 0, [])),
  (59, (.ireturn, 60, some [], [4], .null, [])),
  (60, (.iconst 0, 61, none, [], .int 0, [])),
  (61, (.ireturn, 62, none, [4], .null, []))]
def qm_27 : qM := (((⟨"PlushFlocks$Reader", "mayTellRoom", "(I)Z"⟩ : MethodName), prog_6_method_11_code, 2, (Option.some Jvm.ClassFile.FieldType.boolean)), ("PlushFlocks$Reader", 4, 1), [2075, 1008, 2074, 7, 2], qc_27)
/-- 28: PlushFlocks$Plan.hasRoom(I)Z -/
def qc_28 : List (Nat × qI) := [(0, (.iload_n 1, 1, none, [1], .null, [])),
  (1, (.ifCond .lt 15, 4, none, [16], .null, [])),
  (4, (.iload_n 1, 5, none, [1], .null, [])),
  (5, (.aload_n 0, 6, none, [0], .null, [])),
  (6, (.getfield 9, 9, none, [3, 0, 0, 1026], .null, [])),
  (9, (.if_icmp .ge 7, 12, none, [16], .null, [])),
  (12, (.iconst 1, 13, none, [], .int 1, [])),
  (13, (.goto 4, 16, none, [17], .null, [])),
  (16, (.iconst 0, 17, some [], [], .int 0, [])),
  (17, (.ireturn, 18, some [], [4], .null, []))]
def qm_28 : qM := (((⟨"PlushFlocks$Plan", "hasRoom", "(I)Z"⟩ : MethodName), prog_5_method_2_code, 2, (Option.some Jvm.ClassFile.FieldType.boolean)), ("PlushFlocks$Plan", 3, 1), [2079, 1002, 2077, 2078, 2], qc_28)
/-- 29: PlushFlocks$Reader.mayTellFlock(I)Z -/
def qc_29 : List (Nat × qI) := [(0, (.aload_n 0, 1, none, [0], .null, [])),
  (1, (.getfield 15, 4, none, [4, 3, 0, 2013], .null, [])),
  (4, (.tableswitch 65 0 2 #[28, 37, 54], 32, none, [69], .null, [(0, 32), (1, 41), (2, 58)])),
  (32, (.aload_n 0, 33, none, [0], .null, [])),
  (33, (.getfield 34, 36, none, [4, 8, 2, 2019], .null, [])),
  (36, (.iload_n 1, 37, none, [1], .null, [])),
  (37, (.invokevirtual 96, 40, none, [28, 2, 1, 2076, 0], .null, [])),
  (40, (.ireturn, 41, none, [4], .null, [])),
  (41, (.iload_n 1, 42, none, [1], .null, [])),
  (42, (.iconst 1, 43, none, [], .int 1, [])),
  (43, (.if_icmp .lt 13, 46, none, [56], .null, [])),
  (46, (.iload_n 1, 47, none, [1], .null, [])),
  (47, (.bipush 9, 49, none, [], .int 9, [])),
  (49, (.if_icmp .gt 7, 52, none, [56], .null, [])),
  (52, (.iconst 1, 53, none, [], .int 1, [])),
  (53, (.goto 4, 56, none, [57], .null, [])),
  (56, (.iconst 0, 57, some [], [], .int 0, [])),
  (57, (.ireturn, 58, some [], [4], .null, [])),
  (58, (.iload_n 1, 59, none, [1], .null, [])),
  (59, (.iconst 2, 60, none, [], .int 2, [])),
  (60, (.if_icmp .gt 7, 63, none, [67], .null, [])),
  (63, (.iconst 1, 64, none, [], .int 1, [])),
  (64, (.goto 4, 67, none, [68], .null, [])),
  (67, (.iconst 0, 68, none, [], .int 0, [])),
  (68, (.ireturn, 69, some [], [4], .null, [])),
  (69, (.iconst 0, 70, none, [], .int 0, [])),
  (70, (.ireturn, 71, none, [4], .null, []))]
def qm_29 : qM := (((⟨"PlushFlocks$Reader", "mayTellFlock", "(I)Z"⟩ : MethodName), prog_6_method_12_code, 2, (Option.some Jvm.ClassFile.FieldType.boolean)), ("PlushFlocks$Reader", 4, 1), [2083, 1008, 2082, 8, 2], qc_29)
/-- 30: PlushFlocks$Reader.mayBe(I)Z -/
def qc_30 : List (Nat × qI) := [(0, (.aload_n 0, 1, none, [0], .null, [])),
  (1, (.getfield 9, 4, none, [4, 2, 0, 2012], .null, [])),
  (4, (.lookupswitch 115 #[(100, 50), (102, 91), (110, 97), (114, 44)], 48, none, [119], .null, [(100, 54), (102, 95), (110, 101), (114, 48)])),
  (48, (.aload_n 0, 49, none, [0], .null, [])),
  (49, (.iload_n 1, 50, none, [1], .null, [])),
  (50, (.invokevirtual 93, 53, none, [27, 2, 1, 2072, 0], .null, [])),
  (53, (.ireturn, 54, none, [4], .null, [])),
  (54, (.aload_n 0, 55, none, [0], .null, [])),
  (55, (.getfield 15, 58, none, [4, 3, 0, 2013], .null, [])),
  (58, (.iconst 2, 59, none, [], .int 2, [])),
  (59, (.if_icmp .ge 34, 62, none, [93], .null, [])),
  (62, (.aload_n 0, 63, none, [0], .null, [])),
  (63, (.getfield 34, 66, none, [4, 8, 2, 2019], .null, [])),
  (66, (.iload_n 1, 67, none, [1], .null, [])),
  (67, (.invokevirtual 96, 70, none, [28, 2, 1, 2076, 0], .null, [])),
  (70, (.ifCond .eq 23, 73, none, [93], .null, [])),
  (73, (.aload_n 0, 74, none, [0], .null, [])),
  (74, (.getfield 15, 77, none, [4, 3, 0, 2013], .null, [])),
  (77, (.iconst 1, 78, none, [], .int 1, [])),
  (78, (.if_icmp .ne 11, 81, none, [89], .null, [])),
  (81, (.iload_n 1, 82, none, [1], .null, [])),
  (82, (.aload_n 0, 83, none, [0], .null, [])),
  (83, (.getfield 19, 86, none, [4, 4, 0, 2014], .null, [])),
  (86, (.if_icmp .eq 7, 89, none, [93], .null, [])),
  (89, (.iconst 1, 90, some [], [], .int 1, [])),
  (90, (.goto 4, 93, none, [94], .null, [])),
  (93, (.iconst 0, 94, some [], [], .int 0, [])),
  (94, (.ireturn, 95, some [], [4], .null, [])),
  (95, (.aload_n 0, 96, none, [0], .null, [])),
  (96, (.iload_n 1, 97, none, [1], .null, [])),
  (97, (.invokevirtual 99, 100, none, [29, 2, 1, 2080, 0], .null, [])),
  (100, (.ireturn, 101, none, [4], .null, [])),
  (101, (.aload_n 0, 102, none, [0], .null, [])),
  (102, (.getfield 15, 105, none, [4, 3, 0, 2013], .null, [])),
  (105, (.ifCond .ne 12, 108, none, [117], .null, [])),
  (108, (.iload_n 1, 109, none, [1], .null, [])),
  (109, (.iconst 1, 110, none, [], .int 1, [])),
  (110, (.if_icmp .lt 7, 113, none, [117], .null, [])),
  (113, (.iconst 1, 114, none, [], .int 1, [])),
  (114, (.goto 4, 117, none, [118], .null, [])),
  (117, (.iconst 0, 118, some [], [], .int 0, [])),
  (118, (.ireturn, 119, some [], [4], .null, [])),
  (119, (.iconst 0, 120, none, [], .int 0, [])),
  (120, (.ireturn, 121, none, [4], .null, []))]
def qm_30 : qM := (((⟨"PlushFlocks$Reader", "mayBe", "(I)Z"⟩ : MethodName), prog_6_method_10_code, 2, (Option.some Jvm.ClassFile.FieldType.boolean)), ("PlushFlocks$Reader", 4, 1), [2071, 1008, 2070, 6, 2], qc_30)
/-- 31: PlushFlocks$Reader.takesNumber(I)Z -/
def qc_31 : List (Nat × qI) := [(0, (.iload_n 1, 1, none, [1], .null, [])),
  (1, (.ifCond .lt 11, 4, none, [12], .null, [])),
  (4, (.aload_n 0, 5, none, [0], .null, [])),
  (5, (.iload_n 1, 6, none, [1], .null, [])),
  (6, (.invokevirtual 90, 9, none, [30, 2, 1, 2068, 0], .null, [])),
  (9, (.ifCond .ne 5, 12, none, [14], .null, [])),
  (12, (.iconst 0, 13, some [], [], .int 0, [])),
  (13, (.ireturn, 14, none, [4], .null, [])),
  (14, (.aload_n 0, 15, none, [0], .null, [])),
  (15, (.getfield 15, 18, none, [4, 3, 0, 2013], .null, [])),
  (18, (.ifCond .ne 11, 21, none, [29], .null, [])),
  (21, (.aload_n 0, 22, none, [0], .null, [])),
  (22, (.iload_n 1, 23, none, [1], .null, [])),
  (23, (.putfield 19, 26, none, [4, 4, 0, 2014], .null, [])),
  (26, (.goto 24, 29, none, [50], .null, [])),
  (29, (.aload_n 0, 30, none, [0], .null, [])),
  (30, (.getfield 15, 33, none, [4, 3, 0, 2013], .null, [])),
  (33, (.iconst 1, 34, none, [], .int 1, [])),
  (34, (.if_icmp .ne 11, 37, none, [45], .null, [])),
  (37, (.aload_n 0, 38, none, [0], .null, [])),
  (38, (.iload_n 1, 39, none, [1], .null, [])),
  (39, (.putfield 22, 42, none, [4, 5, 0, 2015], .null, [])),
  (42, (.goto 8, 45, none, [50], .null, [])),
  (45, (.aload_n 0, 46, none, [0], .null, [])),
  (46, (.iload_n 1, 47, none, [1], .null, [])),
  (47, (.putfield 25, 50, none, [4, 6, 0, 2016], .null, [])),
  (50, (.aload_n 0, 51, some [0], [0], .null, [])),
  (51, (.dup, 52, none, [], .null, [])),
  (52, (.getfield 15, 55, none, [4, 3, 0, 2013], .null, [])),
  (55, (.iconst 1, 56, none, [], .int 1, [])),
  (56, (.iadd, 57, none, [], .null, [])),
  (57, (.putfield 15, 60, none, [4, 3, 0, 2013], .null, [])),
  (60, (.iconst 1, 61, none, [], .int 1, [])),
  (61, (.ireturn, 62, none, [4], .null, []))]
def qm_31 : qM := (((⟨"PlushFlocks$Reader", "takesNumber", "(I)Z"⟩ : MethodName), prog_6_method_9_code, 2, (Option.some Jvm.ClassFile.FieldType.boolean)), ("PlushFlocks$Reader", 4, 1), [2067, 1008, 2066, 5, 2], qc_31)
/-- 32: PlushFlocks$Reader.numbersOf(C)I -/
def qc_32 : List (Nat × qI) := [(0, (.iload_n 0, 1, none, [0], .null, [])),
  (1, (.lookupswitch 31 #[(102, 29), (110, 27)], 28, none, [32], .null, [(102, 30), (110, 28)])),
  (28, (.iconst 1, 29, none, [], .int 1, [])),
  (29, (.ireturn, 30, none, [0], .null, [])),
  (30, (.iconst 3, 31, none, [], .int 3, [])),
  (31, (.ireturn, 32, none, [0], .null, [])),
  (32, (.iconst 2, 33, none, [], .int 2, [])),
  (33, (.ireturn, 34, none, [0], .null, []))]
def qm_32 : qM := (((⟨"PlushFlocks$Reader", "numbersOf", "(C)I"⟩ : MethodName), prog_6_method_14_code, 1, (Option.some Jvm.ClassFile.FieldType.int)), ("PlushFlocks$Reader", 4, 0), [2090, 1008, 2089, 0, 1], qc_32)
/-- 33: PlushFlocks.withLane(JII)J -/
def qc_33 : List (Nat × qI) := [(0, (.bipush 8, 2, none, [], .int 8, [])),
  (2, (.iload_n 2, 3, none, [2], .null, [])),
  (3, (.imul, 4, none, [], .null, [])),
  (4, (.istore 4, 6, none, [4], .null, [])),
  (6, (.lload_n 0, 7, none, [0], .null, [])),
  (7, (.ldc2_w 280, 10, none, [2098], .long 255, [])),
  (10, (.iload 4, 12, none, [4], .null, [])),
  (12, (.lshl, 13, none, [], .null, [])),
  (13, (.ldc2_w 282, 16, none, [2099], .long (-1), [])),
  (16, (.lxor, 17, none, [], .null, [])),
  (17, (.land, 18, none, [], .null, [])),
  (18, (.iload_n 3, 19, none, [3], .null, [])),
  (19, (.sipush 255, 22, none, [], .int 255, [])),
  (22, (.iand, 23, none, [], .null, [])),
  (23, (.i2l, 24, none, [], .null, [])),
  (24, (.iload 4, 26, none, [4], .null, [])),
  (26, (.lshl, 27, none, [], .null, [])),
  (27, (.lor, 28, none, [], .null, [])),
  (28, (.lreturn, 29, none, [], .null, []))]
def qm_33 : qM := (((⟨"PlushFlocks", "withLane", "(JII)J"⟩ : MethodName), prog_1_method_37_code, 5, (Option.some Jvm.ClassFile.FieldType.long)), ("PlushFlocks", 6, 0), [2097, 1001, 2096, 0, 3], qc_33)
/-- 34: PlushFlocks$Plan.addRoom(II)V -/
def qc_34 : List (Nat × qI) := [(0, (.aload_n 0, 1, none, [0], .null, [])),
  (1, (.aload_n 0, 2, none, [0], .null, [])),
  (2, (.getfield 25, 5, none, [3, 4, 1, 1042], .null, [])),
  (5, (.aload_n 0, 6, none, [0], .null, [])),
  (6, (.getfield 9, 9, none, [3, 0, 0, 1026], .null, [])),
  (9, (.iload_n 1, 10, none, [1], .null, [])),
  (10, (.invokestatic 44, 13, none, [33, 3, 2, 6, 1], .null, [])),
  (13, (.putfield 25, 16, none, [3, 4, 1, 1042], .null, [])),
  (16, (.aload_n 0, 17, none, [0], .null, [])),
  (17, (.aload_n 0, 18, none, [0], .null, [])),
  (18, (.getfield 29, 21, none, [3, 5, 1, 1044], .null, [])),
  (21, (.aload_n 0, 22, none, [0], .null, [])),
  (22, (.getfield 9, 25, none, [3, 0, 0, 1026], .null, [])),
  (25, (.iload_n 2, 26, none, [2], .null, [])),
  (26, (.invokestatic 44, 29, none, [33, 3, 2, 6, 1], .null, [])),
  (29, (.putfield 29, 32, none, [3, 5, 1, 1044], .null, [])),
  (32, (.aload_n 0, 33, none, [0], .null, [])),
  (33, (.dup, 34, none, [], .null, [])),
  (34, (.getfield 9, 37, none, [3, 0, 0, 1026], .null, [])),
  (37, (.iconst 1, 38, none, [], .int 1, [])),
  (38, (.iadd, 39, none, [], .null, [])),
  (39, (.putfield 9, 42, none, [3, 0, 0, 1026], .null, [])),
  (42, (.return_, 43, none, [], .null, []))]
def qm_34 : qM := (((⟨"PlushFlocks$Plan", "addRoom", "(II)V"⟩ : MethodName), prog_5_method_4_code, 3, (Option.none : Option Jvm.ClassFile.FieldType)), ("PlushFlocks$Plan", 3, 1), [2094, 1002, 2092, 2093, 3], qc_34)
/-- 35: PlushFlocks.lane(JI)I -/
def qc_35 : List (Nat × qI) := [(0, (.lload_n 0, 1, none, [0], .null, [])),
  (1, (.bipush 8, 3, none, [], .int 8, [])),
  (3, (.iload_n 2, 4, none, [2], .null, [])),
  (4, (.imul, 5, none, [], .null, [])),
  (5, (.lushr, 6, none, [], .null, [])),
  (6, (.l2i, 7, none, [], .null, [])),
  (7, (.sipush 255, 10, none, [], .int 255, [])),
  (10, (.iand, 11, none, [], .null, [])),
  (11, (.ireturn, 12, none, [0], .null, []))]
def qm_35 : qM := (((⟨"PlushFlocks", "lane", "(JI)I"⟩ : MethodName), prog_1_method_36_code, 3, (Option.some Jvm.ClassFile.FieldType.int)), ("PlushFlocks", 6, 0), [2106, 1001, 2105, 0, 2], qc_35)
/-- 36: PlushFlocks$Plan.addDoor(II)V -/
def qc_36 : List (Nat × qI) := [(0, (.aload_n 0, 1, none, [0], .null, [])),
  (1, (.aload_n 0, 2, none, [0], .null, [])),
  (2, (.getfield 32, 5, none, [3, 6, 1, 1046], .null, [])),
  (5, (.iload_n 1, 6, none, [1], .null, [])),
  (6, (.aload_n 0, 7, none, [0], .null, [])),
  (7, (.getfield 32, 10, none, [3, 6, 1, 1046], .null, [])),
  (10, (.iload_n 1, 11, none, [1], .null, [])),
  (11, (.invokestatic 48, 14, none, [35, 2, 1, 7, 1], .null, [])),
  (14, (.iconst 1, 15, none, [], .int 1, [])),
  (15, (.iload_n 2, 16, none, [2], .null, [])),
  (16, (.ishl, 17, none, [], .null, [])),
  (17, (.ior, 18, none, [], .null, [])),
  (18, (.invokestatic 44, 21, none, [33, 3, 2, 6, 1], .null, [])),
  (21, (.putfield 32, 24, none, [3, 6, 1, 1046], .null, [])),
  (24, (.aload_n 0, 25, none, [0], .null, [])),
  (25, (.aload_n 0, 26, none, [0], .null, [])),
  (26, (.getfield 32, 29, none, [3, 6, 1, 1046], .null, [])),
  (29, (.iload_n 2, 30, none, [2], .null, [])),
  (30, (.aload_n 0, 31, none, [0], .null, [])),
  (31, (.getfield 32, 34, none, [3, 6, 1, 1046], .null, [])),
  (34, (.iload_n 2, 35, none, [2], .null, [])),
  (35, (.invokestatic 48, 38, none, [35, 2, 1, 7, 1], .null, [])),
  (38, (.iconst 1, 39, none, [], .int 1, [])),
  (39, (.iload_n 1, 40, none, [1], .null, [])),
  (40, (.ishl, 41, none, [], .null, [])),
  (41, (.ior, 42, none, [], .null, [])),
  (42, (.invokestatic 44, 45, none, [33, 3, 2, 6, 1], .null, [])),
  (45, (.putfield 32, 48, none, [3, 6, 1, 1046], .null, [])),
  (48, (.return_, 49, none, [], .null, []))]
def qm_36 : qM := (((⟨"PlushFlocks$Plan", "addDoor", "(II)V"⟩ : MethodName), prog_5_method_5_code, 3, (Option.none : Option Jvm.ClassFile.FieldType)), ("PlushFlocks$Plan", 3, 1), [2103, 1002, 2101, 2102, 3], qc_36)
/-- 37: PlushFlocks.withSpot(III)I -/
def qc_37 : List (Nat × qI) := [(0, (.iconst 3, 1, none, [], .int 3, [])),
  (1, (.iconst 4, 2, none, [], .int 4, [])),
  (2, (.iload_n 1, 3, none, [1], .null, [])),
  (3, (.isub, 4, none, [], .null, [])),
  (4, (.imul, 5, none, [], .null, [])),
  (5, (.istore_n 3, 6, none, [3], .null, [])),
  (6, (.iload_n 0, 7, none, [0], .null, [])),
  (7, (.bipush 7, 9, none, [], .int 7, [])),
  (9, (.iload_n 3, 10, none, [3], .null, [])),
  (10, (.ishl, 11, none, [], .null, [])),
  (11, (.iconst (-1), 12, none, [], .int (-1), [])),
  (12, (.ixor, 13, none, [], .null, [])),
  (13, (.iand, 14, none, [], .null, [])),
  (14, (.iload_n 2, 15, none, [2], .null, [])),
  (15, (.bipush 7, 17, none, [], .int 7, [])),
  (17, (.iand, 18, none, [], .null, [])),
  (18, (.iload_n 3, 19, none, [3], .null, [])),
  (19, (.ishl, 20, none, [], .null, [])),
  (20, (.ior, 21, none, [], .null, [])),
  (21, (.ireturn, 22, none, [0], .null, []))]
def qm_37 : qM := (((⟨"PlushFlocks", "withSpot", "(III)I"⟩ : MethodName), prog_1_method_40_code, 4, (Option.some Jvm.ClassFile.FieldType.int)), ("PlushFlocks", 6, 0), [2113, 1001, 2112, 0, 3], qc_37)
/-- 38: PlushFlocks$Plan.addFlock(III)V -/
def qc_38 : List (Nat × qI) := [(0, (.aload_n 0, 1, none, [0], .null, [])),
  (1, (.aload_n 0, 2, none, [0], .null, [])),
  (2, (.getfield 35, 5, none, [3, 7, 0, 1050], .null, [])),
  (5, (.aload_n 0, 6, none, [0], .null, [])),
  (6, (.getfield 15, 9, none, [3, 1, 0, 1031], .null, [])),
  (9, (.iload_n 1, 10, none, [1], .null, [])),
  (10, (.invokestatic 52, 13, none, [37, 3, 1, 8, 1], .null, [])),
  (13, (.putfield 35, 16, none, [3, 7, 0, 1050], .null, [])),
  (16, (.aload_n 0, 17, none, [0], .null, [])),
  (17, (.aload_n 0, 18, none, [0], .null, [])),
  (18, (.getfield 38, 21, none, [3, 8, 1, 1054], .null, [])),
  (21, (.aload_n 0, 22, none, [0], .null, [])),
  (22, (.getfield 15, 25, none, [3, 1, 0, 1031], .null, [])),
  (25, (.iload_n 2, 26, none, [2], .null, [])),
  (26, (.invokestatic 44, 29, none, [33, 3, 2, 6, 1], .null, [])),
  (29, (.putfield 38, 32, none, [3, 8, 1, 1054], .null, [])),
  (32, (.aload_n 0, 33, none, [0], .null, [])),
  (33, (.aload_n 0, 34, none, [0], .null, [])),
  (34, (.getfield 41, 37, none, [3, 9, 1, 1058], .null, [])),
  (37, (.aload_n 0, 38, none, [0], .null, [])),
  (38, (.getfield 15, 41, none, [3, 1, 0, 1031], .null, [])),
  (41, (.iload_n 3, 42, none, [3], .null, [])),
  (42, (.invokestatic 44, 45, none, [33, 3, 2, 6, 1], .null, [])),
  (45, (.putfield 41, 48, none, [3, 9, 1, 1058], .null, [])),
  (48, (.aload_n 0, 49, none, [0], .null, [])),
  (49, (.dup, 50, none, [], .null, [])),
  (50, (.getfield 15, 53, none, [3, 1, 0, 1031], .null, [])),
  (53, (.iconst 1, 54, none, [], .int 1, [])),
  (54, (.iadd, 55, none, [], .null, [])),
  (55, (.putfield 15, 58, none, [3, 1, 0, 1031], .null, [])),
  (58, (.return_, 59, none, [], .null, []))]
def qm_38 : qM := (((⟨"PlushFlocks$Plan", "addFlock", "(III)V"⟩ : MethodName), prog_5_method_6_code, 4, (Option.none : Option Jvm.ClassFile.FieldType)), ("PlushFlocks$Plan", 3, 1), [2110, 1002, 2108, 2109, 4], qc_38)
/-- 39: PlushFlocks$Plan.tellLambAt(I)V -/
def qc_39 : List (Nat × qI) := [(0, (.aload_n 0, 1, none, [0], .null, [])),
  (1, (.iload_n 1, 2, none, [1], .null, [])),
  (2, (.putfield 18, 5, none, [3, 2, 0, 1037], .null, [])),
  (5, (.aload_n 0, 6, none, [0], .null, [])),
  (6, (.iconst 1, 7, none, [], .int 1, [])),
  (7, (.putfield 21, 10, none, [3, 3, 4, 1040], .null, [])),
  (10, (.return_, 11, none, [], .null, []))]
def qm_39 : qM := (((⟨"PlushFlocks$Plan", "tellLambAt", "(I)V"⟩ : MethodName), prog_5_method_7_code, 2, (Option.none : Option Jvm.ClassFile.FieldType)), ("PlushFlocks$Plan", 3, 1), [2117, 1002, 2115, 2116, 2], qc_39)
/-- 40: PlushFlocks$Reader.takesEnd()Z -/
def qc_40 : List (Nat × qI) := [(0, (.aload_n 0, 1, none, [0], .null, [])),
  (1, (.getfield 9, 4, none, [4, 2, 0, 2012], .null, [])),
  (4, (.bipush 32, 6, none, [], .int 32, [])),
  (6, (.if_icmp .eq 17, 9, none, [23], .null, [])),
  (9, (.aload_n 0, 10, none, [0], .null, [])),
  (10, (.getfield 15, 13, none, [4, 3, 0, 2013], .null, [])),
  (13, (.aload_n 0, 14, none, [0], .null, [])),
  (14, (.getfield 9, 17, none, [4, 2, 0, 2012], .null, [])),
  (17, (.invokestatic 102, 20, none, [32, 1, 1, 2088, 0], .null, [])),
  (20, (.if_icmp .eq 5, 23, none, [25], .null, [])),
  (23, (.iconst 0, 24, some [], [], .int 0, [])),
  (24, (.ireturn, 25, none, [4], .null, [])),
  (25, (.aload_n 0, 26, none, [0], .null, [])),
  (26, (.getfield 9, 29, none, [4, 2, 0, 2012], .null, [])),
  (29, (.lookupswitch 93 #[(100, 53), (102, 71), (114, 35)], 64, none, [122], .null, [(100, 82), (102, 100), (114, 64)])),
  (64, (.aload_n 0, 65, none, [0], .null, [])),
  (65, (.getfield 34, 68, none, [4, 8, 2, 2019], .null, [])),
  (68, (.aload_n 0, 69, none, [0], .null, [])),
  (69, (.getfield 19, 72, none, [4, 4, 0, 2014], .null, [])),
  (72, (.aload_n 0, 73, none, [0], .null, [])),
  (73, (.getfield 22, 76, none, [4, 5, 0, 2015], .null, [])),
  (76, (.invokevirtual 106, 79, none, [34, 3, 0, 2091, 0], .null, [])),
  (79, (.goto 54, 82, none, [133], .null, [])),
  (82, (.aload_n 0, 83, none, [0], .null, [])),
  (83, (.getfield 34, 86, none, [4, 8, 2, 2019], .null, [])),
  (86, (.aload_n 0, 87, none, [0], .null, [])),
  (87, (.getfield 19, 90, none, [4, 4, 0, 2014], .null, [])),
  (90, (.aload_n 0, 91, none, [0], .null, [])),
  (91, (.getfield 22, 94, none, [4, 5, 0, 2015], .null, [])),
  (94, (.invokevirtual 110, 97, none, [36, 3, 0, 2100, 0], .null, [])),
  (97, (.goto 36, 100, none, [133], .null, [])),
  (100, (.aload_n 0, 101, none, [0], .null, [])),
  (101, (.getfield 34, 104, none, [4, 8, 2, 2019], .null, [])),
  (104, (.aload_n 0, 105, none, [0], .null, [])),
  (105, (.getfield 19, 108, none, [4, 4, 0, 2014], .null, [])),
  (108, (.aload_n 0, 109, none, [0], .null, [])),
  (109, (.getfield 22, 112, none, [4, 5, 0, 2015], .null, [])),
  (112, (.aload_n 0, 113, none, [0], .null, [])),
  (113, (.getfield 25, 116, none, [4, 6, 0, 2016], .null, [])),
  (116, (.invokevirtual 113, 119, none, [38, 4, 0, 2107, 0], .null, [])),
  (119, (.goto 14, 122, none, [133], .null, [])),
  (122, (.aload_n 0, 123, none, [0], .null, [])),
  (123, (.getfield 34, 126, none, [4, 8, 2, 2019], .null, [])),
  (126, (.aload_n 0, 127, none, [0], .null, [])),
  (127, (.getfield 19, 130, none, [4, 4, 0, 2014], .null, [])),
  (130, (.invokevirtual 117, 133, none, [39, 2, 0, 2114, 0], .null, [])),
  (133, (.aload_n 0, 134, some [0], [0], .null, [])),
  (134, (.dup, 135, none, [], .null, [])),
  (135, (.getfield 28, 138, none, [4, 7, 0, 2017], .null, [])),
  (138, (.iconst 1, 139, none, [], .int 1, [])),
  (139, (.iadd, 140, none, [], .null, [])),
  (140, (.putfield 28, 143, none, [4, 7, 0, 2017], .null, [])),
  (143, (.aload_n 0, 144, none, [0], .null, [])),
  (144, (.bipush 32, 146, none, [], .int 32, [])),
  (146, (.putfield 9, 149, none, [4, 2, 3, 2012], .null, [])),
  (149, (.iconst 1, 150, none, [], .int 1, [])),
  (150, (.ireturn, 151, none, [4], .null, []))]
def qm_40 : qM := (((⟨"PlushFlocks$Reader", "takesEnd", "()Z"⟩ : MethodName), prog_6_method_13_code, 1, (Option.some Jvm.ClassFile.FieldType.boolean)), ("PlushFlocks$Reader", 4, 1), [2087, 1008, 2086, 9, 1], qc_40)
/-- 41: PlushFlocks$Reader.takesLetter(C)Z -/
def qc_41 : List (Nat × qI) := [(0, (.aload_n 0, 1, none, [0], .null, [])),
  (1, (.getfield 9, 4, none, [4, 2, 0, 2012], .null, [])),
  (4, (.bipush 32, 6, none, [], .int 32, [])),
  (6, (.if_icmp .eq 5, 9, none, [11], .null, [])),
  (9, (.iconst 0, 10, none, [], .int 0, [])),
  (10, (.ireturn, 11, none, [4], .null, [])),
  (11, (.aload_n 0, 12, none, [0], .null, [])),
  (12, (.iload_n 1, 13, none, [1], .null, [])),
  (13, (.putfield 9, 16, none, [4, 2, 3, 2012], .null, [])),
  (16, (.aload_n 0, 17, none, [0], .null, [])),
  (17, (.iconst 0, 18, none, [], .int 0, [])),
  (18, (.putfield 15, 21, none, [4, 3, 0, 2013], .null, [])),
  (21, (.iload_n 1, 22, none, [1], .null, [])),
  (22, (.lookupswitch 94 #[(100, 59), (102, 61), (110, 78), (114, 42)], 64, none, [116], .null, [(100, 81), (102, 83), (110, 100), (114, 64)])),
  (64, (.aload_n 0, 65, none, [0], .null, [])),
  (65, (.getfield 34, 68, none, [4, 8, 2, 2019], .null, [])),
  (68, (.getfield 80, 71, none, [3, 0, 0, 1029], .null, [])),
  (71, (.iconst 5, 72, none, [], .int 5, [])),
  (72, (.if_icmp .ge 7, 75, none, [79], .null, [])),
  (75, (.iconst 1, 76, none, [], .int 1, [])),
  (76, (.goto 4, 79, none, [80], .null, [])),
  (79, (.iconst 0, 80, none, [], .int 0, [])),
  (80, (.ireturn, 81, some [], [4], .null, [])),
  (81, (.iconst 1, 82, none, [], .int 1, [])),
  (82, (.ireturn, 83, none, [4], .null, [])),
  (83, (.aload_n 0, 84, none, [0], .null, [])),
  (84, (.getfield 34, 87, none, [4, 8, 2, 2019], .null, [])),
  (87, (.getfield 83, 90, none, [3, 1, 0, 1035], .null, [])),
  (90, (.iconst 5, 91, none, [], .int 5, [])),
  (91, (.if_icmp .ge 7, 94, none, [98], .null, [])),
  (94, (.iconst 1, 95, none, [], .int 1, [])),
  (95, (.goto 4, 98, none, [99], .null, [])),
  (98, (.iconst 0, 99, none, [], .int 0, [])),
  (99, (.ireturn, 100, some [], [4], .null, [])),
  (100, (.aload_n 0, 101, none, [0], .null, [])),
  (101, (.getfield 34, 104, none, [4, 8, 2, 2019], .null, [])),
  (104, (.getfield 86, 107, none, [3, 3, 0, 1041], .null, [])),
  (107, (.ifCond .ne 7, 110, none, [114], .null, [])),
  (110, (.iconst 1, 111, none, [], .int 1, [])),
  (111, (.goto 4, 114, none, [115], .null, [])),
  (114, (.iconst 0, 115, none, [], .int 0, [])),
  (115, (.ireturn, 116, some [], [4], .null, [])),
  (116, (.iconst 0, 117, none, [], .int 0, [])),
  (117, (.ireturn, 118, none, [4], .null, []))]
def qm_41 : qM := (((⟨"PlushFlocks$Reader", "takesLetter", "(C)Z"⟩ : MethodName), prog_6_method_8_code, 2, (Option.some Jvm.ClassFile.FieldType.boolean)), ("PlushFlocks$Reader", 4, 1), [2121, 1008, 2120, 10, 2], qc_41)
/-- 42: PlushFlocks$Reader.takes(I)Z -/
def qc_42 : List (Nat × qI) := [(0, (.aload_n 0, 1, none, [0], .null, [])),
  (1, (.iload_n 1, 2, none, [1], .null, [])),
  (2, (.invokevirtual 62, 5, none, [24, 2, 1, 2052, 0], .null, [])),
  (5, (.ifCond .eq 13, 8, none, [18], .null, [])),
  (8, (.aload_n 0, 9, none, [0], .null, [])),
  (9, (.aload_n 0, 10, none, [0], .null, [])),
  (10, (.iload_n 1, 11, none, [1], .null, [])),
  (11, (.invokevirtual 65, 14, none, [26, 2, 1, 2060, 0], .null, [])),
  (14, (.invokevirtual 69, 17, none, [31, 2, 1, 2064, 0], .null, [])),
  (17, (.ireturn, 18, none, [4], .null, [])),
  (18, (.aload_n 0, 19, none, [0], .null, [])),
  (19, (.iload_n 1, 20, none, [1], .null, [])),
  (20, (.invokevirtual 58, 23, none, [23, 2, 1, 2048, 0], .null, [])),
  (23, (.bipush 59, 25, none, [], .int 59, [])),
  (25, (.if_icmp .ne 10, 28, none, [35], .null, [])),
  (28, (.aload_n 0, 29, none, [0], .null, [])),
  (29, (.invokevirtual 72, 32, none, [40, 1, 1, 2084, 0], .null, [])),
  (32, (.goto 12, 35, none, [44], .null, [])),
  (35, (.aload_n 0, 36, none, [0], .null, [])),
  (36, (.aload_n 0, 37, none, [0], .null, [])),
  (37, (.iload_n 1, 38, none, [1], .null, [])),
  (38, (.invokevirtual 58, 41, none, [23, 2, 1, 2048, 0], .null, [])),
  (41, (.invokevirtual 76, 44, none, [41, 2, 1, 2118, 0], .null, [])),
  (44, (.ireturn, 45, some [], [4], .null, []))]
def qm_42 : qM := (((⟨"PlushFlocks$Reader", "takes", "(I)Z"⟩ : MethodName), prog_6_method_6_code, 2, (Option.some Jvm.ClassFile.FieldType.boolean)), ("PlushFlocks$Reader", 4, 1), [2059, 1008, 2058, 3, 2], qc_42)
/-- 43: PlushFlocks$Reader.readAll()I -/
def qc_43 : List (Nat × qI) := [(0, (.iconst 0, 1, none, [], .int 0, [])),
  (1, (.istore_n 1, 2, none, [1], .null, [])),
  (2, (.iload_n 1, 3, some [0, 1], [1], .null, [])),
  (3, (.aload_n 0, 4, none, [0], .null, [])),
  (4, (.getfield 48, 7, none, [4, 1, 0, 2011], .null, [])),
  (7, (.if_icmp .ge 27, 10, none, [34], .null, [])),
  (10, (.aload_n 0, 11, none, [0], .null, [])),
  (11, (.iload_n 1, 12, none, [1], .null, [])),
  (12, (.invokevirtual 51, 15, none, [25, 2, 1, 2044, 0], .null, [])),
  (15, (.ifCond .eq 13, 18, none, [28], .null, [])),
  (18, (.aload_n 0, 19, none, [0], .null, [])),
  (19, (.iload_n 1, 20, none, [1], .null, [])),
  (20, (.invokevirtual 55, 23, none, [42, 2, 1, 2056, 0], .null, [])),
  (23, (.ifCond .ne 5, 26, none, [28], .null, [])),
  (26, (.iload_n 1, 27, none, [1], .null, [])),
  (27, (.ireturn, 28, none, [0], .null, [])),
  (28, (.iinc 1 1, 31, some [0, 1], [1], .int 1, [])),
  (31, (.goto (-29), 34, none, [2], .null, [])),
  (34, (.aload_n 0, 35, none, [0], .null, [])),
  (35, (.getfield 9, 38, none, [4, 2, 0, 2012], .null, [])),
  (38, (.bipush 32, 40, none, [], .int 32, [])),
  (40, (.if_icmp .ne 7, 43, none, [47], .null, [])),
  (43, (.iconst (-1), 44, none, [], .int (-1), [])),
  (44, (.goto 7, 47, none, [51], .null, [])),
  (47, (.aload_n 0, 48, none, [0], .null, [])),
  (48, (.getfield 48, 51, none, [4, 1, 0, 2011], .null, [])),
  (51, (.ireturn, 52, some [], [0], .null, []))]
def qm_43 : qM := (((⟨"PlushFlocks$Reader", "readAll", "()I"⟩ : MethodName), prog_6_method_2_code, 2, (Option.some Jvm.ClassFile.FieldType.int)), ("PlushFlocks$Reader", 4, 1), [2043, 1008, 2041, 2042, 1], qc_43)
/-- 44: PlushFlocks$Evening.begin(LPlushFlocks$Plan;)V -/
def qc_44 : List (Nat × qI) := [(0, (.aload_n 0, 1, none, [0], .null, [])),
  (1, (.aload_n 1, 2, none, [1], .null, [])),
  (2, (.getfield 31, 5, none, [3, 7, 0, 1052], .null, [])),
  (5, (.putfield 9, 8, none, [0, 0, 0, 1088], .null, [])),
  (8, (.aload_n 0, 9, none, [0], .null, [])),
  (9, (.aload_n 1, 10, none, [1], .null, [])),
  (10, (.getfield 36, 13, none, [3, 5, 1, 1045], .null, [])),
  (13, (.putfield 15, 16, none, [0, 1, 1, 1091], .null, [])),
  (16, (.aload_n 0, 17, none, [0], .null, [])),
  (17, (.lconst 0, 18, none, [], .long 0, [])),
  (18, (.putfield 19, 21, none, [0, 2, 1, 1093], .null, [])),
  (21, (.aload_n 0, 22, none, [0], .null, [])),
  (22, (.lconst 0, 23, none, [], .long 0, [])),
  (23, (.putfield 22, 26, none, [0, 3, 1, 1095], .null, [])),
  (26, (.aload_n 0, 27, none, [0], .null, [])),
  (27, (.iconst 0, 28, none, [], .int 0, [])),
  (28, (.putfield 25, 31, none, [0, 4, 0, 1097], .null, [])),
  (31, (.aload_n 0, 32, none, [0], .null, [])),
  (32, (.iconst 0, 33, none, [], .int 0, [])),
  (33, (.putfield 28, 36, none, [0, 5, 0, 1100], .null, [])),
  (36, (.return_, 37, none, [], .null, []))]
def qm_44 : qM := (((⟨"PlushFlocks$Evening", "begin", "(LPlushFlocks$Plan;)V"⟩ : MethodName), prog_2_method_3_code, 2, (Option.none : Option Jvm.ClassFile.FieldType)), ("PlushFlocks$Evening", 0, 1), [2125, 1003, 2123, 2124, 2], qc_44)
/-- 45: PlushFlocks$Past.lose()V -/
def qc_45 : List (Nat × qI) := [(0, (.aload_n 0, 1, none, [0], .null, [])),
  (1, (.iconst 0, 2, none, [], .int 0, [])),
  (2, (.putfield 21, 5, none, [2, 2, 0, 1126], .null, [])),
  (5, (.return_, 6, none, [], .null, []))]
def qm_45 : qM := (((⟨"PlushFlocks$Past", "lose", "()V"⟩ : MethodName), prog_4_method_4_code, 1, (Option.none : Option Jvm.ClassFile.FieldType)), ("PlushFlocks$Past", 2, 1), [2129, 1004, 2127, 2128, 1], qc_45)
/-- 46: PlushFlocks$Grazing.lose()V -/
def qc_46 : List (Nat × qI) := [(0, (.aload_n 0, 1, none, [0], .null, [])),
  (1, (.iconst 0, 2, none, [], .int 0, [])),
  (2, (.putfield 21, 5, none, [1, 3, 0, 1144], .null, [])),
  (5, (.return_, 6, none, [], .null, []))]
def qm_46 : qM := (((⟨"PlushFlocks$Grazing", "lose", "()V"⟩ : MethodName), prog_3_method_3_code, 1, (Option.none : Option Jvm.ClassFile.FieldType)), ("PlushFlocks$Grazing", 1, 1), [2133, 1005, 2131, 2132, 1], qc_46)
/-- 47: PlushFlocks.house()I -/
def qc_47 : List (Nat × qI) := [(0, (.new 66, 3, none, [4, 9, 1239, 2000, 1008], .null, [])),
  (3, (.dup, 4, none, [], .null, [])),
  (4, (.aload_n 0, 5, none, [0], .null, [])),
  (5, (.getfield 9, 8, none, [6, 0, 2, 1193], .null, [])),
  (8, (.aload_n 0, 9, none, [0], .null, [])),
  (9, (.getfield 13, 12, none, [6, 1, 0, 1194], .null, [])),
  (12, (.invokespecial 68, 15, none, [22, 3, 0, 2001, 0], .null, [])),
  (15, (.astore_n 1, 16, none, [1], .null, [])),
  (16, (.aload_n 1, 17, none, [1], .null, [])),
  (17, (.invokevirtual 71, 20, none, [43, 1, 1, 2040, 0], .null, [])),
  (20, (.istore_n 2, 21, none, [2], .null, [])),
  (21, (.iload_n 2, 22, none, [2], .null, [])),
  (22, (.ifCond .lt 8, 25, none, [30], .null, [])),
  (25, (.bipush (-10), 27, none, [], .int (-10), [])),
  (27, (.iload_n 2, 28, none, [2], .null, [])),
  (28, (.isub, 29, none, [], .null, [])),
  (29, (.ireturn, 30, none, [0], .null, [])),
  (30, (.aload_n 0, 31, none, [0], .null, [])),
  (31, (.iconst 0, 32, none, [], .int 0, [])),
  (32, (.putfield 13, 35, none, [6, 1, 0, 1194], .null, [])),
  (35, (.aload_n 0, 36, none, [0], .null, [])),
  (36, (.aload_n 1, 37, none, [1], .null, [])),
  (37, (.getfield 75, 40, none, [4, 8, 2, 2020], .null, [])),
  (40, (.putfield 20, 43, none, [6, 2, 2, 1195], .null, [])),
  (43, (.aload_n 0, 44, none, [0], .null, [])),
  (44, (.getfield 27, 47, none, [6, 3, 2, 1196], .null, [])),
  (47, (.aload_n 0, 48, none, [0], .null, [])),
  (48, (.getfield 20, 51, none, [6, 2, 2, 1195], .null, [])),
  (51, (.invokevirtual 76, 54, none, [44, 2, 0, 2122, 0], .null, [])),
  (54, (.aload_n 0, 55, none, [0], .null, [])),
  (55, (.getfield 37, 58, none, [6, 5, 2, 1198], .null, [])),
  (58, (.invokevirtual 80, 61, none, [45, 1, 0, 2126, 0], .null, [])),
  (61, (.aload_n 0, 62, none, [0], .null, [])),
  (62, (.iconst 0, 63, none, [], .int 0, [])),
  (63, (.putfield 45, 66, none, [6, 7, 0, 1200], .null, [])),
  (66, (.aload_n 0, 67, none, [0], .null, [])),
  (67, (.getfield 51, 70, none, [6, 8, 2, 1201], .null, [])),
  (70, (.invokevirtual 83, 73, none, [46, 1, 0, 2130, 0], .null, [])),
  (73, (.aload_n 1, 74, none, [1], .null, [])),
  (74, (.getfield 84, 77, none, [4, 7, 0, 2018], .null, [])),
  (77, (.ireturn, 78, none, [0], .null, []))]
def qm_47 : qM := (((⟨"PlushFlocks", "house", "()I"⟩ : MethodName), prog_1_method_4_code, 3, (Option.some Jvm.ClassFile.FieldType.int)), ("PlushFlocks", 6, 1), [1238, 1001, 1236, 1237, 1], qc_47)
/-- 48: PlushFlocksModel.house()I -/
def qc_48 : List (Nat × qI) := [(0, (.aload_n 0, 1, none, [0], .null, [])),
  (1, (.invokevirtual 45, 4, none, [15, 1, 1, 3182, 0], .null, [])),
  (4, (.ifCond .ne 11, 7, none, [15], .null, [])),
  (7, (.bipush (-10), 9, none, [], .int (-10), [])),
  (9, (.aload_n 0, 10, none, [0], .null, [])),
  (10, (.getfield 67, 13, none, [7, 14, 0, 3237], .null, [])),
  (13, (.isub, 14, none, [], .null, [])),
  (14, (.ireturn, 15, none, [0], .null, [])),
  (15, (.aload_n 0, 16, none, [0], .null, [])),
  (16, (.invokevirtual 49, 19, none, [16, 1, 0, 3219, 0], .null, [])),
  (19, (.aload_n 0, 20, none, [0], .null, [])),
  (20, (.iconst 0, 21, none, [], .int 0, [])),
  (21, (.putfield 56, 24, none, [7, 2, 0, 3225], .null, [])),
  (24, (.aload_n 0, 25, none, [0], .null, [])),
  (25, (.getfield 13, 28, none, [7, 3, 2, 3226], .null, [])),
  (28, (.iconst 3, 29, none, [], .int 3, [])),
  (29, (.iaload, 30, none, [1], .null, [])),
  (30, (.ireturn, 31, none, [0], .null, []))]
def qm_48 : qM := (((⟨"PlushFlocksModel", "house", "()I"⟩ : MethodName), prog_9_method_20_code, 1, (Option.some Jvm.ClassFile.FieldType.int)), ("PlushFlocksModel", 7, 1), [4053, 1007, 4051, 4052, 1], qc_48)
/-- 49: PlushFlocks.spot(II)I -/
def qc_49 : List (Nat × qI) := [(0, (.iload_n 0, 1, none, [0], .null, [])),
  (1, (.iconst 3, 2, none, [], .int 3, [])),
  (2, (.iconst 4, 3, none, [], .int 4, [])),
  (3, (.iload_n 1, 4, none, [1], .null, [])),
  (4, (.isub, 5, none, [], .null, [])),
  (5, (.imul, 6, none, [], .null, [])),
  (6, (.ishr, 7, none, [], .null, [])),
  (7, (.bipush 7, 9, none, [], .int 7, [])),
  (9, (.iand, 10, none, [], .null, [])),
  (10, (.ireturn, 11, none, [0], .null, []))]
def qm_49 : qM := (((⟨"PlushFlocks", "spot", "(II)I"⟩ : MethodName), prog_1_method_39_code, 2, (Option.some Jvm.ClassFile.FieldType.int)), ("PlushFlocks", 6, 0), [2146, 1001, 2145, 0, 2], qc_49)
/-- 50: PlushFlocks$Plan.flocksIn(II)I -/
def qc_50 : List (Nat × qI) := [(0, (.iconst 0, 1, none, [], .int 0, [])),
  (1, (.istore_n 3, 2, none, [3], .null, [])),
  (2, (.iconst 0, 3, none, [], .int 0, [])),
  (3, (.istore 4, 5, none, [4], .null, [])),
  (5, (.iload 4, 7, some [0, 1, 2, 3, 4], [4], .null, [])),
  (7, (.aload_n 0, 8, none, [0], .null, [])),
  (8, (.getfield 15, 11, none, [3, 1, 0, 1031], .null, [])),
  (11, (.if_icmp .ge 26, 14, none, [37], .null, [])),
  (14, (.iload_n 1, 15, none, [1], .null, [])),
  (15, (.iload 4, 17, none, [4], .null, [])),
  (17, (.invokestatic 56, 20, none, [49, 2, 1, 9, 1], .null, [])),
  (20, (.iload_n 2, 21, none, [2], .null, [])),
  (21, (.if_icmp .ne 10, 24, none, [31], .null, [])),
  (24, (.iload_n 3, 25, none, [3], .null, [])),
  (25, (.iconst 1, 26, none, [], .int 1, [])),
  (26, (.iload 4, 28, none, [4], .null, [])),
  (28, (.ishl, 29, none, [], .null, [])),
  (29, (.ior, 30, none, [], .null, [])),
  (30, (.istore_n 3, 31, none, [3], .null, [])),
  (31, (.iinc 4 1, 34, some [0, 1, 2, 3, 4], [4], .int 1, [])),
  (34, (.goto (-29), 37, none, [5], .null, [])),
  (37, (.iload_n 3, 38, none, [3], .null, [])),
  (38, (.ireturn, 39, none, [0], .null, []))]
def qm_50 : qM := (((⟨"PlushFlocks$Plan", "flocksIn", "(II)I"⟩ : MethodName), prog_5_method_8_code, 5, (Option.some Jvm.ClassFile.FieldType.int)), ("PlushFlocks$Plan", 3, 1), [2143, 1002, 2141, 2142, 3], qc_50)
/-- 51: PlushFlocks$Evening.become(LPlushFlocks$Evening;)V -/
def qc_51 : List (Nat × qI) := [(0, (.aload_n 0, 1, none, [0], .null, [])),
  (1, (.aload_n 1, 2, none, [1], .null, [])),
  (2, (.getfield 9, 5, none, [0, 0, 0, 1088], .null, [])),
  (5, (.putfield 9, 8, none, [0, 0, 0, 1088], .null, [])),
  (8, (.aload_n 0, 9, none, [0], .null, [])),
  (9, (.aload_n 1, 10, none, [1], .null, [])),
  (10, (.getfield 15, 13, none, [0, 1, 1, 1091], .null, [])),
  (13, (.putfield 15, 16, none, [0, 1, 1, 1091], .null, [])),
  (16, (.aload_n 0, 17, none, [0], .null, [])),
  (17, (.aload_n 1, 18, none, [1], .null, [])),
  (18, (.getfield 19, 21, none, [0, 2, 1, 1093], .null, [])),
  (21, (.putfield 19, 24, none, [0, 2, 1, 1093], .null, [])),
  (24, (.aload_n 0, 25, none, [0], .null, [])),
  (25, (.aload_n 1, 26, none, [1], .null, [])),
  (26, (.getfield 22, 29, none, [0, 3, 1, 1095], .null, [])),
  (29, (.putfield 22, 32, none, [0, 3, 1, 1095], .null, [])),
  (32, (.aload_n 0, 33, none, [0], .null, [])),
  (33, (.aload_n 1, 34, none, [1], .null, [])),
  (34, (.getfield 25, 37, none, [0, 4, 0, 1097], .null, [])),
  (37, (.putfield 25, 40, none, [0, 4, 0, 1097], .null, [])),
  (40, (.aload_n 0, 41, none, [0], .null, [])),
  (41, (.aload_n 1, 42, none, [1], .null, [])),
  (42, (.getfield 28, 45, none, [0, 5, 0, 1100], .null, [])),
  (45, (.putfield 28, 48, none, [0, 5, 0, 1100], .null, [])),
  (48, (.return_, 49, none, [], .null, []))]
def qm_51 : qM := (((⟨"PlushFlocks$Evening", "become", "(LPlushFlocks$Evening;)V"⟩ : MethodName), prog_2_method_2_code, 2, (Option.none : Option Jvm.ClassFile.FieldType)), ("PlushFlocks$Evening", 0, 1), [2154, 1003, 2152, 2153, 2], qc_51)
/-- 52: PlushFlocks.has(II)Z -/
def qc_52 : List (Nat × qI) := [(0, (.iload_n 0, 1, none, [0], .null, [])),
  (1, (.iload_n 1, 2, none, [1], .null, [])),
  (2, (.ishr, 3, none, [], .null, [])),
  (3, (.iconst 1, 4, none, [], .int 1, [])),
  (4, (.iand, 5, none, [], .null, [])),
  (5, (.iconst 1, 6, none, [], .int 1, [])),
  (6, (.if_icmp .ne 7, 9, none, [13], .null, [])),
  (9, (.iconst 1, 10, none, [], .int 1, [])),
  (10, (.goto 4, 13, none, [14], .null, [])),
  (13, (.iconst 0, 14, none, [], .int 0, [])),
  (14, (.ireturn, 15, some [], [4], .null, []))]
def qm_52 : qM := (((⟨"PlushFlocks", "has", "(II)Z"⟩ : MethodName), prog_1_method_41_code, 2, (Option.some Jvm.ClassFile.FieldType.boolean)), ("PlushFlocks", 6, 0), [2166, 1001, 2165, 0, 2], qc_52)
/-- 53: PlushFlocks$Evening.graze(LPlushFlocks$Plan;II)I -/
def qc_53 : List (Nat × qI) := [(0, (.aload_n 0, 1, none, [0], .null, [])),
  (1, (.getfield 15, 4, none, [0, 1, 1, 1091], .null, [])),
  (4, (.iload_n 3, 5, none, [3], .null, [])),
  (5, (.invokestatic 52, 8, none, [35, 2, 1, 12, 1], .null, [])),
  (8, (.istore 4, 10, none, [4], .null, [])),
  (10, (.aload_n 1, 11, none, [1], .null, [])),
  (11, (.getfield 78, 14, none, [3, 8, 1, 1055], .null, [])),
  (14, (.iload_n 2, 15, none, [2], .null, [])),
  (15, (.invokestatic 52, 18, none, [35, 2, 1, 12, 1], .null, [])),
  (18, (.iload 4, 20, none, [4], .null, [])),
  (20, (.invokestatic 81, 23, none, [997, 2, 1, 2172, 0], .null, [])),
  (23, (.istore 5, 25, none, [5], .null, [])),
  (25, (.aload_n 0, 26, none, [0], .null, [])),
  (26, (.getfield 19, 29, none, [0, 2, 1, 1093], .null, [])),
  (29, (.iload_n 2, 30, none, [2], .null, [])),
  (30, (.invokestatic 52, 33, none, [35, 2, 1, 12, 1], .null, [])),
  (33, (.iload 5, 35, none, [5], .null, [])),
  (35, (.iadd, 36, none, [], .null, [])),
  (36, (.istore 6, 38, none, [6], .null, [])),
  (38, (.aload_n 1, 39, none, [1], .null, [])),
  (39, (.getfield 86, 42, none, [3, 2, 0, 1038], .null, [])),
  (42, (.iconst 1, 43, none, [], .int 1, [])),
  (43, (.if_icmp .ge 7, 46, none, [50], .null, [])),
  (46, (.iconst 0, 47, none, [], .int 0, [])),
  (47, (.goto 10, 50, none, [57], .null, [])),
  (50, (.iload 6, 52, none, [6], .null, [])),
  (52, (.aload_n 1, 53, none, [1], .null, [])),
  (53, (.getfield 86, 56, none, [3, 2, 0, 1038], .null, [])),
  (56, (.idiv, 57, none, [], .null, [])),
  (57, (.istore 7, 59, some [0, 1, 2, 3, 4, 5, 6], [7], .null, [])),
  (59, (.aload_n 0, 60, none, [0], .null, [])),
  (60, (.aload_n 0, 61, none, [0], .null, [])),
  (61, (.getfield 15, 64, none, [0, 1, 1, 1091], .null, [])),
  (64, (.iload_n 3, 65, none, [3], .null, [])),
  (65, (.iload 4, 67, none, [4], .null, [])),
  (67, (.iload 5, 69, none, [5], .null, [])),
  (69, (.isub, 70, none, [], .null, [])),
  (70, (.invokestatic 89, 73, none, [33, 3, 2, 13, 1], .null, [])),
  (73, (.putfield 15, 76, none, [0, 1, 1, 1091], .null, [])),
  (76, (.aload_n 0, 77, none, [0], .null, [])),
  (77, (.aload_n 0, 78, none, [0], .null, [])),
  (78, (.getfield 19, 81, none, [0, 2, 1, 1093], .null, [])),
  (81, (.iload_n 2, 82, none, [2], .null, [])),
  (82, (.iload 6, 84, none, [6], .null, [])),
  (84, (.iload 7, 86, none, [7], .null, [])),
  (86, (.aload_n 1, 87, none, [1], .null, [])),
  (87, (.getfield 86, 90, none, [3, 2, 0, 1038], .null, [])),
  (90, (.imul, 91, none, [], .null, [])),
  (91, (.isub, 92, none, [], .null, [])),
  (92, (.invokestatic 89, 95, none, [33, 3, 2, 13, 1], .null, [])),
  (95, (.putfield 19, 98, none, [0, 2, 1, 1093], .null, [])),
  (98, (.aload_n 0, 99, none, [0], .null, [])),
  (99, (.aload_n 0, 100, none, [0], .null, [])),
  (100, (.getfield 22, 103, none, [0, 3, 1, 1095], .null, [])),
  (103, (.iload_n 2, 104, none, [2], .null, [])),
  (104, (.bipush 99, 106, none, [], .int 99, [])),
  (106, (.aload_n 0, 107, none, [0], .null, [])),
  (107, (.getfield 22, 110, none, [0, 3, 1, 1095], .null, [])),
  (110, (.iload_n 2, 111, none, [2], .null, [])),
  (111, (.invokestatic 52, 114, none, [35, 2, 1, 12, 1], .null, [])),
  (114, (.iload 7, 116, none, [7], .null, [])),
  (116, (.iadd, 117, none, [], .null, [])),
  (117, (.invokestatic 81, 120, none, [997, 2, 1, 2172, 0], .null, [])),
  (120, (.invokestatic 89, 123, none, [33, 3, 2, 13, 1], .null, [])),
  (123, (.putfield 22, 126, none, [0, 3, 1, 1095], .null, [])),
  (126, (.iload 5, 128, none, [5], .null, [])),
  (128, (.ireturn, 129, none, [0], .null, []))]
def qm_53 : qM := (((⟨"PlushFlocks$Evening", "graze", "(LPlushFlocks$Plan;II)I"⟩ : MethodName), prog_2_method_6_code, 8, (Option.some Jvm.ClassFile.FieldType.int)), ("PlushFlocks$Evening", 0, 1), [2171, 1003, 2170, 13, 4], qc_53)
/-- 54: PlushFlocks$Plan.openRooms(II)I -/
def qc_54 : List (Nat × qI) := [(0, (.lconst 0, 1, none, [], .long 0, [])),
  (1, (.lstore_n 3, 2, none, [3], .null, [])),
  (2, (.iconst 0, 3, none, [], .int 0, [])),
  (3, (.istore 5, 5, none, [5], .null, [])),
  (5, (.iload 5, 7, some [0, 1, 2, 3, 5], [5], .null, [])),
  (7, (.aload_n 0, 8, none, [0], .null, [])),
  (8, (.getfield 15, 11, none, [3, 1, 0, 1031], .null, [])),
  (11, (.if_icmp .ge 23, 14, none, [34], .null, [])),
  (14, (.lload_n 3, 15, none, [3], .null, [])),
  (15, (.lconst 1, 16, none, [], .long 1, [])),
  (16, (.bipush 8, 18, none, [], .int 8, [])),
  (18, (.iload_n 1, 19, none, [1], .null, [])),
  (19, (.iload 5, 21, none, [5], .null, [])),
  (21, (.invokestatic 56, 24, none, [49, 2, 1, 9, 1], .null, [])),
  (24, (.imul, 25, none, [], .null, [])),
  (25, (.lshl, 26, none, [], .null, [])),
  (26, (.ladd, 27, none, [], .null, [])),
  (27, (.lstore_n 3, 28, none, [3], .null, [])),
  (28, (.iinc 5 1, 31, none, [5], .int 1, [])),
  (31, (.goto (-26), 34, none, [5], .null, [])),
  (34, (.iconst 0, 35, none, [], .int 0, [])),
  (35, (.istore 5, 37, none, [5], .null, [])),
  (37, (.iconst 0, 38, none, [], .int 0, [])),
  (38, (.istore 6, 40, none, [6], .null, [])),
  (40, (.iload 6, 42, some [0, 2, 3, 5, 6], [6], .null, [])),
  (42, (.aload_n 0, 43, none, [0], .null, [])),
  (43, (.getfield 9, 46, none, [3, 0, 0, 1026], .null, [])),
  (46, (.if_icmp .ge 45, 49, none, [91], .null, [])),
  (49, (.iload_n 2, 50, none, [2], .null, [])),
  (50, (.iload 6, 52, none, [6], .null, [])),
  (52, (.invokestatic 60, 55, none, [52, 2, 1, 14, 1], .null, [])),
  (55, (.ifCond .ne 30, 58, none, [85], .null, [])),
  (58, (.lload_n 3, 59, none, [3], .null, [])),
  (59, (.iload 6, 61, none, [6], .null, [])),
  (61, (.invokestatic 48, 64, none, [35, 2, 1, 7, 1], .null, [])),
  (64, (.aload_n 0, 65, none, [0], .null, [])),
  (65, (.getfield 25, 68, none, [3, 4, 1, 1042], .null, [])),
  (68, (.iload 6, 70, none, [6], .null, [])),
  (70, (.invokestatic 48, 73, none, [35, 2, 1, 7, 1], .null, [])),
  (73, (.if_icmp .ge 12, 76, none, [85], .null, [])),
  (76, (.iload 5, 78, none, [5], .null, [])),
  (78, (.iconst 1, 79, none, [], .int 1, [])),
  (79, (.iload 6, 81, none, [6], .null, [])),
  (81, (.ishl, 82, none, [], .null, [])),
  (82, (.ior, 83, none, [], .null, [])),
  (83, (.istore 5, 85, none, [5], .null, [])),
  (85, (.iinc 6 1, 88, some [0, 2, 3, 5, 6], [6], .int 1, [])),
  (88, (.goto (-48), 91, none, [40], .null, [])),
  (91, (.iload 5, 93, none, [5], .null, [])),
  (93, (.ireturn, 94, none, [0], .null, []))]
def qm_54 : qM := (((⟨"PlushFlocks$Plan", "openRooms", "(II)I"⟩ : MethodName), prog_5_method_10_code, 7, (Option.some Jvm.ClassFile.FieldType.int)), ("PlushFlocks$Plan", 3, 1), [2177, 1002, 2175, 2176, 3], qc_54)
/-- 55: PlushFlocks$Evening.carpeted()I -/
def qc_55 : List (Nat × qI) := [(0, (.iconst 0, 1, none, [], .int 0, [])),
  (1, (.istore_n 1, 2, none, [1], .null, [])),
  (2, (.iconst 0, 3, none, [], .int 0, [])),
  (3, (.istore_n 2, 4, none, [2], .null, [])),
  (4, (.iload_n 2, 5, some [0, 1, 2], [2], .null, [])),
  (5, (.iconst 5, 6, none, [], .int 5, [])),
  (6, (.if_icmp .ge 26, 9, none, [32], .null, [])),
  (9, (.aload_n 0, 10, none, [0], .null, [])),
  (10, (.getfield 15, 13, none, [0, 1, 1, 1091], .null, [])),
  (13, (.iload_n 2, 14, none, [2], .null, [])),
  (14, (.invokestatic 52, 17, none, [35, 2, 1, 12, 1], .null, [])),
  (17, (.ifCond .le 9, 20, none, [26], .null, [])),
  (20, (.iload_n 1, 21, none, [1], .null, [])),
  (21, (.iconst 1, 22, none, [], .int 1, [])),
  (22, (.iload_n 2, 23, none, [2], .null, [])),
  (23, (.ishl, 24, none, [], .null, [])),
  (24, (.ior, 25, none, [], .null, [])),
  (25, (.istore_n 1, 26, none, [1], .null, [])),
  (26, (.iinc 2 1, 29, some [0, 1, 2], [2], .int 1, [])),
  (29, (.goto (-25), 32, none, [4], .null, [])),
  (32, (.iload_n 1, 33, none, [1], .null, [])),
  (33, (.ireturn, 34, none, [0], .null, []))]
def qm_55 : qM := (((⟨"PlushFlocks$Evening", "carpeted", "()I"⟩ : MethodName), prog_2_method_7_code, 3, (Option.some Jvm.ClassFile.FieldType.int)), ("PlushFlocks$Evening", 0, 1), [2182, 1003, 2181, 14, 1], qc_55)
/-- 56: PlushFlocks.lowest(I)I -/
def qc_56 : List (Nat × qI) := [(0, (.iconst 0, 1, none, [], .int 0, [])),
  (1, (.istore_n 1, 2, none, [1], .null, [])),
  (2, (.iload_n 1, 3, some [0, 1], [1], .null, [])),
  (3, (.iconst 5, 4, none, [], .int 5, [])),
  (4, (.if_icmp .ge 19, 7, none, [23], .null, [])),
  (7, (.iload_n 0, 8, none, [0], .null, [])),
  (8, (.iload_n 1, 9, none, [1], .null, [])),
  (9, (.invokestatic 166, 12, none, [52, 2, 1, 2186, 0], .null, [])),
  (12, (.ifCond .eq 5, 15, none, [17], .null, [])),
  (15, (.iload_n 1, 16, none, [1], .null, [])),
  (16, (.ireturn, 17, none, [0], .null, [])),
  (17, (.iinc 1 1, 20, none, [1], .int 1, [])),
  (20, (.goto (-18), 23, none, [2], .null, [])),
  (23, (.bipush (-9), 25, none, [], .int (-9), [])),
  (25, (.ireturn, 26, none, [0], .null, []))]
def qm_56 : qM := (((⟨"PlushFlocks", "lowest", "(I)I"⟩ : MethodName), prog_1_method_42_code, 2, (Option.some Jvm.ClassFile.FieldType.int)), ("PlushFlocks", 6, 0), [2185, 1001, 2184, 0, 1], qc_56)
/-- 57: PlushFlocks$Evening.act(LPlushFlocks$Plan;I)I -/
def qc_57 : List (Nat × qI) := [(0, (.aload_n 0, 1, none, [0], .null, [])),
  (1, (.getfield 9, 4, none, [0, 0, 0, 1088], .null, [])),
  (4, (.iload_n 2, 5, none, [2], .null, [])),
  (5, (.invokestatic 44, 8, none, [49, 2, 1, 10, 1], .null, [])),
  (8, (.istore_n 3, 9, none, [3], .null, [])),
  (9, (.aload_n 0, 10, none, [0], .null, [])),
  (10, (.getfield 25, 13, none, [0, 4, 0, 1097], .null, [])),
  (13, (.iload_n 3, 14, none, [3], .null, [])),
  (14, (.invokestatic 48, 17, none, [52, 2, 1, 11, 1], .null, [])),
  (17, (.istore 4, 19, none, [4], .null, [])),
  (19, (.iload 4, 21, none, [4], .null, [])),
  (21, (.ifCond .ne 22, 24, none, [43], .null, [])),
  (24, (.aload_n 0, 25, none, [0], .null, [])),
  (25, (.getfield 15, 28, none, [0, 1, 1, 1091], .null, [])),
  (28, (.iload_n 3, 29, none, [3], .null, [])),
  (29, (.invokestatic 52, 32, none, [35, 2, 1, 12, 1], .null, [])),
  (32, (.ifCond .le 11, 35, none, [43], .null, [])),
  (35, (.aload_n 0, 36, none, [0], .null, [])),
  (36, (.aload_n 1, 37, none, [1], .null, [])),
  (37, (.iload_n 2, 38, none, [2], .null, [])),
  (38, (.iload_n 3, 39, none, [3], .null, [])),
  (39, (.invokevirtual 56, 42, none, [53, 4, 1, 2168, 0], .null, [])),
  (42, (.ireturn, 43, none, [0], .null, [])),
  (43, (.aload_n 1, 44, some [0, 1, 2, 3, 4], [1], .null, [])),
  (44, (.getfield 60, 47, none, [3, 6, 1, 1048], .null, [])),
  (47, (.iload_n 3, 48, none, [3], .null, [])),
  (48, (.invokestatic 52, 51, none, [35, 2, 1, 12, 1], .null, [])),
  (51, (.aload_n 1, 52, none, [1], .null, [])),
  (52, (.aload_n 0, 53, none, [0], .null, [])),
  (53, (.getfield 9, 56, none, [0, 0, 0, 1088], .null, [])),
  (56, (.aload_n 0, 57, none, [0], .null, [])),
  (57, (.getfield 25, 60, none, [0, 4, 0, 1097], .null, [])),
  (60, (.invokevirtual 63, 63, none, [54, 3, 1, 2174, 0], .null, [])),
  (63, (.iand, 64, none, [], .null, [])),
  (64, (.istore 5, 66, none, [5], .null, [])),
  (66, (.iload 4, 68, none, [4], .null, [])),
  (68, (.ifCond .ne 12, 71, none, [80], .null, [])),
  (71, (.iload 5, 73, none, [5], .null, [])),
  (73, (.aload_n 0, 74, none, [0], .null, [])),
  (74, (.invokevirtual 66, 77, none, [55, 1, 1, 2179, 0], .null, [])),
  (77, (.iand, 78, none, [], .null, [])),
  (78, (.istore 5, 80, none, [5], .null, [])),
  (80, (.iload 5, 82, some [0, 2, 5], [5], .null, [])),
  (82, (.ifCond .eq 20, 85, none, [102], .null, [])),
  (85, (.aload_n 0, 86, none, [0], .null, [])),
  (86, (.aload_n 0, 87, none, [0], .null, [])),
  (87, (.getfield 9, 90, none, [0, 0, 0, 1088], .null, [])),
  (90, (.iload_n 2, 91, none, [2], .null, [])),
  (91, (.iload 5, 93, none, [5], .null, [])),
  (93, (.invokestatic 70, 96, none, [56, 1, 1, 15, 1], .null, [])),
  (96, (.invokestatic 74, 99, none, [37, 3, 1, 16, 1], .null, [])),
  (99, (.putfield 9, 102, none, [0, 0, 0, 1088], .null, [])),
  (102, (.iconst 0, 103, some [], [], .int 0, [])),
  (103, (.ireturn, 104, none, [0], .null, []))]
def qm_57 : qM := (((⟨"PlushFlocks$Evening", "act", "(LPlushFlocks$Plan;I)I"⟩ : MethodName), prog_2_method_5_code, 6, (Option.some Jvm.ClassFile.FieldType.int)), ("PlushFlocks$Evening", 0, 1), [2162, 1003, 2161, 12, 3], qc_57)
/-- 58: PlushFlocks$Evening.pass(LPlushFlocks$Plan;)I -/
def qc_58 : List (Nat × qI) := [(0, (.iconst 0, 1, none, [], .int 0, [])),
  (1, (.istore_n 2, 2, none, [2], .null, [])),
  (2, (.iconst 0, 3, none, [], .int 0, [])),
  (3, (.istore_n 3, 4, none, [3], .null, [])),
  (4, (.iload_n 3, 5, some [0, 1, 2, 3], [3], .null, [])),
  (5, (.aload_n 1, 6, none, [1], .null, [])),
  (6, (.getfield 37, 9, none, [3, 1, 0, 1033], .null, [])),
  (9, (.if_icmp .ge 18, 12, none, [27], .null, [])),
  (12, (.iload_n 2, 13, none, [2], .null, [])),
  (13, (.aload_n 0, 14, none, [0], .null, [])),
  (14, (.aload_n 1, 15, none, [1], .null, [])),
  (15, (.iload_n 3, 16, none, [3], .null, [])),
  (16, (.invokevirtual 40, 19, none, [57, 3, 1, 2159, 0], .null, [])),
  (19, (.iadd, 20, none, [], .null, [])),
  (20, (.istore_n 2, 21, none, [2], .null, [])),
  (21, (.iinc 3 1, 24, none, [3], .int 1, [])),
  (24, (.goto (-20), 27, none, [4], .null, [])),
  (27, (.iload_n 2, 28, none, [2], .null, [])),
  (28, (.ireturn, 29, none, [0], .null, []))]
def qm_58 : qM := (((⟨"PlushFlocks$Evening", "pass", "(LPlushFlocks$Plan;)I"⟩ : MethodName), prog_2_method_4_code, 4, (Option.some Jvm.ClassFile.FieldType.int)), ("PlushFlocks$Evening", 0, 1), [2158, 1003, 2156, 2157, 2], qc_58)
/-- 59: PlushFlocks.stepsTillBare(I)I -/
def qc_59 : List (Nat × qI) := [(0, (.aload_n 0, 1, none, [0], .null, [])),
  (1, (.getfield 31, 4, none, [6, 4, 2, 1197], .null, [])),
  (4, (.aload_n 0, 5, none, [0], .null, [])),
  (5, (.getfield 27, 8, none, [6, 3, 2, 1196], .null, [])),
  (8, (.invokevirtual 152, 11, none, [51, 2, 0, 2151, 0], .null, [])),
  (11, (.iconst 0, 12, none, [], .int 0, [])),
  (12, (.istore_n 2, 13, none, [2], .null, [])),
  (13, (.iload_n 2, 14, some [0, 1, 2], [2], .null, [])),
  (14, (.bipush 60, 16, none, [], .int 60, [])),
  (16, (.if_icmp .gt 37, 19, none, [53], .null, [])),
  (19, (.aload_n 0, 20, none, [0], .null, [])),
  (20, (.getfield 31, 23, none, [6, 4, 2, 1197], .null, [])),
  (23, (.getfield 98, 26, none, [0, 1, 1, 1092], .null, [])),
  (26, (.iload_n 1, 27, none, [1], .null, [])),
  (27, (.invokestatic 94, 30, none, [35, 2, 1, 2139, 0], .null, [])),
  (30, (.ifCond .ne 5, 33, none, [35], .null, [])),
  (33, (.iload_n 2, 34, none, [2], .null, [])),
  (34, (.ireturn, 35, none, [0], .null, [])),
  (35, (.aload_n 0, 36, none, [0], .null, [])),
  (36, (.getfield 31, 39, none, [6, 4, 2, 1197], .null, [])),
  (39, (.aload_n 0, 40, none, [0], .null, [])),
  (40, (.getfield 20, 43, none, [6, 2, 2, 1195], .null, [])),
  (43, (.invokevirtual 156, 46, none, [58, 2, 1, 2155, 0], .null, [])),
  (46, (.pop, 47, none, [], .null, [])),
  (47, (.iinc 2 1, 50, none, [2], .int 1, [])),
  (50, (.goto (-37), 53, none, [13], .null, [])),
  (53, (.bipush (-9), 55, none, [], .int (-9), [])),
  (55, (.ireturn, 56, none, [0], .null, []))]
def qm_59 : qM := (((⟨"PlushFlocks", "stepsTillBare", "(I)I"⟩ : MethodName), prog_1_method_8_code, 3, (Option.some Jvm.ClassFile.FieldType.int)), ("PlushFlocks", 6, 1), [2150, 1001, 2149, 11, 2], qc_59)
/-- 60: PlushFlocks.room(II)I -/
def qc_60 : List (Nat × qI) := [(0, (.aload_n 0, 1, none, [0], .null, [])),
  (1, (.getfield 20, 4, none, [6, 2, 2, 1195], .null, [])),
  (4, (.iload_n 1, 5, none, [1], .null, [])),
  (5, (.invokevirtual 87, 8, none, [28, 2, 1, 2138, 0], .null, [])),
  (8, (.ifCond .ne 5, 11, none, [13], .null, [])),
  (11, (.iconst (-1), 12, none, [], .int (-1), [])),
  (12, (.ireturn, 13, none, [0], .null, [])),
  (13, (.iload_n 2, 14, none, [2], .null, [])),
  (14, (.tableswitch 108 0 5 #[38, 50, 62, 74, 90, 102], 52, none, [122], .null, [(0, 52), (1, 64), (2, 76), (3, 88), (4, 104), (5, 116)])),
  (52, (.aload_n 0, 53, none, [0], .null, [])),
  (53, (.getfield 20, 56, none, [6, 2, 2, 1195], .null, [])),
  (56, (.getfield 91, 59, none, [3, 4, 1, 1043], .null, [])),
  (59, (.iload_n 1, 60, none, [1], .null, [])),
  (60, (.invokestatic 94, 63, none, [35, 2, 1, 2139, 0], .null, [])),
  (63, (.ireturn, 64, none, [0], .null, [])),
  (64, (.aload_n 0, 65, none, [0], .null, [])),
  (65, (.getfield 27, 68, none, [6, 3, 2, 1196], .null, [])),
  (68, (.getfield 98, 71, none, [0, 1, 1, 1092], .null, [])),
  (71, (.iload_n 1, 72, none, [1], .null, [])),
  (72, (.invokestatic 94, 75, none, [35, 2, 1, 2139, 0], .null, [])),
  (75, (.ireturn, 76, none, [0], .null, [])),
  (76, (.aload_n 0, 77, none, [0], .null, [])),
  (77, (.getfield 20, 80, none, [6, 2, 2, 1195], .null, [])),
  (80, (.getfield 101, 83, none, [3, 6, 1, 1049], .null, [])),
  (83, (.iload_n 1, 84, none, [1], .null, [])),
  (84, (.invokestatic 94, 87, none, [35, 2, 1, 2139, 0], .null, [])),
  (87, (.ireturn, 88, none, [0], .null, [])),
  (88, (.aload_n 0, 89, none, [0], .null, [])),
  (89, (.getfield 20, 92, none, [6, 2, 2, 1195], .null, [])),
  (92, (.aload_n 0, 93, none, [0], .null, [])),
  (93, (.getfield 27, 96, none, [6, 3, 2, 1196], .null, [])),
  (96, (.getfield 104, 99, none, [0, 0, 0, 1090], .null, [])),
  (99, (.iload_n 1, 100, none, [1], .null, [])),
  (100, (.invokevirtual 107, 103, none, [50, 3, 1, 2140, 0], .null, [])),
  (103, (.ireturn, 104, none, [0], .null, [])),
  (104, (.aload_n 0, 105, none, [0], .null, [])),
  (105, (.getfield 27, 108, none, [6, 3, 2, 1196], .null, [])),
  (108, (.getfield 111, 111, none, [0, 4, 0, 1099], .null, [])),
  (111, (.iload_n 1, 112, none, [1], .null, [])),
  (112, (.ishr, 113, none, [], .null, [])),
  (113, (.iconst 1, 114, none, [], .int 1, [])),
  (114, (.iand, 115, none, [], .null, [])),
  (115, (.ireturn, 116, none, [0], .null, [])),
  (116, (.aload_n 0, 117, none, [0], .null, [])),
  (117, (.iload_n 1, 118, none, [1], .null, [])),
  (118, (.invokevirtual 114, 121, none, [59, 2, 1, 2147, 0], .null, [])),
  (121, (.ireturn, 122, none, [0], .null, [])),
  (122, (.iconst (-1), 123, none, [], .int (-1), [])),
  (123, (.ireturn, 124, none, [0], .null, []))]
def qm_60 : qM := (((⟨"PlushFlocks", "room", "(II)I"⟩ : MethodName), prog_1_method_5_code, 3, (Option.some Jvm.ClassFile.FieldType.int)), ("PlushFlocks", 6, 1), [2137, 1001, 2135, 2136, 3], qc_60)
/-- 61: PlushFlocksModel.isRoom(I)Z -/
def qc_61 : List (Nat × qI) := [(0, (.iload_n 1, 1, none, [1], .null, [])),
  (1, (.iconst 0, 2, none, [], .int 0, [])),
  (2, (.aload_n 0, 3, none, [0], .null, [])),
  (3, (.getfield 13, 6, none, [7, 3, 2, 3226], .null, [])),
  (6, (.iconst 0, 7, none, [], .int 0, [])),
  (7, (.iaload, 8, none, [1], .null, [])),
  (8, (.iconst 1, 9, none, [], .int 1, [])),
  (9, (.isub, 10, none, [], .null, [])),
  (10, (.invokestatic 52, 13, none, [8, 3, 1, 3200, 0], .null, [])),
  (13, (.ireturn, 14, none, [4], .null, []))]
def qm_61 : qM := (((⟨"PlushFlocksModel", "isRoom", "(I)Z"⟩ : MethodName), prog_9_method_6_code, 2, (Option.some Jvm.ClassFile.FieldType.boolean)), ("PlushFlocksModel", 7, 1), [4061, 1007, 4060, 35, 2], qc_61)
/-- 62: PlushFlocksModel.inRoom(I)I -/
def qc_62 : List (Nat × qI) := [(0, (.iconst 0, 1, none, [], .int 0, [])),
  (1, (.istore_n 2, 2, none, [2], .null, [])),
  (2, (.iconst 0, 3, none, [], .int 0, [])),
  (3, (.istore_n 3, 4, none, [3], .null, [])),
  (4, (.iload_n 3, 5, some [0, 1, 2, 3], [3], .null, [])),
  (5, (.aload_n 0, 6, none, [0], .null, [])),
  (6, (.getfield 13, 9, none, [7, 3, 2, 3226], .null, [])),
  (9, (.iconst 1, 10, none, [], .int 1, [])),
  (10, (.iaload, 11, none, [1], .null, [])),
  (11, (.if_icmp .ge 29, 14, none, [40], .null, [])),
  (14, (.iload_n 2, 15, none, [2], .null, [])),
  (15, (.aload_n 0, 16, none, [0], .null, [])),
  (16, (.getfield 19, 19, none, [7, 5, 2, 3228], .null, [])),
  (19, (.iload_n 3, 20, none, [3], .null, [])),
  (20, (.iaload, 21, none, [1], .null, [])),
  (21, (.iload_n 1, 22, none, [1], .null, [])),
  (22, (.if_icmp .ne 9, 25, none, [31], .null, [])),
  (25, (.iconst 1, 26, none, [], .int 1, [])),
  (26, (.iload_n 3, 27, none, [3], .null, [])),
  (27, (.ishl, 28, none, [], .null, [])),
  (28, (.goto 4, 31, none, [32], .null, [])),
  (31, (.iconst 0, 32, none, [], .int 0, [])),
  (32, (.ior, 33, some [0, 1, 3], [], .null, [])),
  (33, (.istore_n 2, 34, none, [2], .null, [])),
  (34, (.iinc 3 1, 37, none, [3], .int 1, [])),
  (37, (.goto (-33), 40, none, [4], .null, [])),
  (40, (.iload_n 2, 41, none, [2], .null, [])),
  (41, (.ireturn, 42, none, [0], .null, []))]
def qm_62 : qM := (((⟨"PlushFlocksModel", "inRoom", "(I)I"⟩ : MethodName), prog_9_method_21_code, 4, (Option.some Jvm.ClassFile.FieldType.int)), ("PlushFlocksModel", 7, 1), [4065, 1007, 4064, 36, 2], qc_62)
/-- 63: PlushFlocksModel.holds()V -/
def qc_63 : List (Nat × qI) := [(0, (.iconst 0, 1, none, [], .int 0, [])),
  (1, (.istore_n 1, 2, none, [1], .null, [])),
  (2, (.iload_n 1, 3, some [0, 1], [1], .null, [])),
  (3, (.bipush 22, 5, none, [], .int 22, [])),
  (5, (.if_icmp .ge 21, 8, none, [26], .null, [])),
  (8, (.aload_n 0, 9, none, [0], .null, [])),
  (9, (.getfield 35, 12, none, [7, 16, 2, 3239], .null, [])),
  (12, (.iload_n 1, 13, none, [1], .null, [])),
  (13, (.aload_n 0, 14, none, [0], .null, [])),
  (14, (.getfield 19, 17, none, [7, 5, 2, 3228], .null, [])),
  (17, (.iload_n 1, 18, none, [1], .null, [])),
  (18, (.iaload, 19, none, [1], .null, [])),
  (19, (.iastore, 20, none, [], .null, [])),
  (20, (.iinc 1 1, 23, none, [1], .int 1, [])),
  (23, (.goto (-21), 26, none, [2], .null, [])),
  (26, (.return_, 27, none, [], .null, []))]
def qm_63 : qM := (((⟨"PlushFlocksModel", "holds", "()V"⟩ : MethodName), prog_9_method_24_code, 2, (Option.none : Option Jvm.ClassFile.FieldType)), ("PlushFlocksModel", 7, 1), [4073, 1007, 4072, 38, 1], qc_63)
/-- 64: PlushFlocksModel.has(II)Z -/
def qc_64 : List (Nat × qI) := [(0, (.iload_n 0, 1, none, [0], .null, [])),
  (1, (.iload_n 1, 2, none, [1], .null, [])),
  (2, (.ishr, 3, none, [], .null, [])),
  (3, (.iconst 1, 4, none, [], .int 1, [])),
  (4, (.iand, 5, none, [], .null, [])),
  (5, (.iconst 1, 6, none, [], .int 1, [])),
  (6, (.if_icmp .ne 7, 9, none, [13], .null, [])),
  (9, (.iconst 1, 10, none, [], .int 1, [])),
  (10, (.goto 4, 13, none, [14], .null, [])),
  (13, (.iconst 0, 14, none, [], .int 0, [])),
  (14, (.ireturn, 15, some [], [4], .null, []))]
def qm_64 : qM := (((⟨"PlushFlocksModel", "has", "(II)Z"⟩ : MethodName), prog_9_method_4_code, 2, (Option.some Jvm.ClassFile.FieldType.boolean)), ("PlushFlocksModel", 7, 0), [4080, 1007, 4079, 0, 2], qc_64)
/-- 65: PlushFlocksModel.ones(I)I -/
def qc_65 : List (Nat × qI) := [(0, (.iconst 0, 1, none, [], .int 0, [])),
  (1, (.istore_n 1, 2, none, [1], .null, [])),
  (2, (.iconst 0, 3, none, [], .int 0, [])),
  (3, (.istore_n 2, 4, none, [2], .null, [])),
  (4, (.iload_n 2, 5, some [0, 1, 2], [2], .null, [])),
  (5, (.iconst 5, 6, none, [], .int 5, [])),
  (6, (.if_icmp .ge 17, 9, none, [23], .null, [])),
  (9, (.iload_n 1, 10, none, [1], .null, [])),
  (10, (.iload_n 0, 11, none, [0], .null, [])),
  (11, (.iload_n 2, 12, none, [2], .null, [])),
  (12, (.ishr, 13, none, [], .null, [])),
  (13, (.iconst 1, 14, none, [], .int 1, [])),
  (14, (.iand, 15, none, [], .null, [])),
  (15, (.iadd, 16, none, [], .null, [])),
  (16, (.istore_n 1, 17, none, [1], .null, [])),
  (17, (.iinc 2 1, 20, none, [2], .int 1, [])),
  (20, (.goto (-16), 23, none, [4], .null, [])),
  (23, (.iload_n 1, 24, none, [1], .null, [])),
  (24, (.ireturn, 25, none, [0], .null, []))]
def qm_65 : qM := (((⟨"PlushFlocksModel", "ones", "(I)I"⟩ : MethodName), prog_9_method_5_code, 3, (Option.some Jvm.ClassFile.FieldType.int)), ("PlushFlocksModel", 7, 0), [4087, 1007, 4086, 0, 1], qc_65)
/-- 66: PlushFlocksModel.beyond(IZ)I -/
def qc_66 : List (Nat × qI) := [(0, (.bipush (-9), 2, none, [], .int (-9), [])),
  (2, (.istore_n 3, 3, none, [3], .null, [])),
  (3, (.aload_n 0, 4, none, [0], .null, [])),
  (4, (.getfield 13, 7, none, [7, 3, 2, 3226], .null, [])),
  (7, (.iconst 0, 8, none, [], .int 0, [])),
  (8, (.iaload, 9, none, [1], .null, [])),
  (9, (.iconst 1, 10, none, [], .int 1, [])),
  (10, (.isub, 11, none, [], .null, [])),
  (11, (.istore 4, 13, none, [4], .null, [])),
  (13, (.iload 4, 15, some [0, 1, 2, 3, 4], [4], .null, [])),
  (15, (.ifCond .lt 98, 18, none, [113], .null, [])),
  (18, (.aload_n 0, 19, none, [0], .null, [])),
  (19, (.getfield 13, 22, none, [7, 3, 2, 3226], .null, [])),
  (22, (.bipush 15, 24, none, [], .int 15, [])),
  (24, (.iload_n 1, 25, none, [1], .null, [])),
  (25, (.iadd, 26, none, [], .null, [])),
  (26, (.iaload, 27, none, [1], .null, [])),
  (27, (.iload 4, 29, none, [4], .null, [])),
  (29, (.invokestatic 105, 32, none, [64, 2, 1, 4078, 0], .null, [])),
  (32, (.ifCond .eq 43, 35, none, [75], .null, [])),
  (35, (.aload_n 0, 36, none, [0], .null, [])),
  (36, (.getfield 19, 39, none, [7, 5, 2, 3228], .null, [])),
  (39, (.bipush 20, 41, none, [], .int 20, [])),
  (41, (.iaload, 42, none, [1], .null, [])),
  (42, (.iload 4, 44, none, [4], .null, [])),
  (44, (.invokestatic 105, 47, none, [64, 2, 1, 4078, 0], .null, [])),
  (47, (.ifCond .ne 28, 50, none, [75], .null, [])),
  (50, (.aload_n 0, 51, none, [0], .null, [])),
  (51, (.iload 4, 53, none, [4], .null, [])),
  (53, (.invokevirtual 108, 56, none, [62, 2, 1, 4062, 0], .null, [])),
  (56, (.invokestatic 111, 59, none, [65, 1, 1, 4085, 0], .null, [])),
  (59, (.aload_n 0, 60, none, [0], .null, [])),
  (60, (.getfield 13, 63, none, [7, 3, 2, 3226], .null, [])),
  (63, (.iconst 5, 64, none, [], .int 5, [])),
  (64, (.iload 4, 66, none, [4], .null, [])),
  (66, (.iadd, 67, none, [], .null, [])),
  (67, (.iaload, 68, none, [1], .null, [])),
  (68, (.if_icmp .ge 7, 71, none, [75], .null, [])),
  (71, (.iconst 1, 72, none, [], .int 1, [])),
  (72, (.goto 4, 75, none, [76], .null, [])),
  (75, (.iconst 0, 76, some [0, 1, 2, 3, 4], [], .int 0, [])),
  (76, (.istore 5, 78, some [0, 1, 2, 3, 4], [5], .null, [])),
  (78, (.iload 5, 80, none, [5], .null, [])),
  (80, (.ifCond .eq 25, 83, none, [105], .null, [])),
  (83, (.iload_n 2, 84, none, [2], .null, [])),
  (84, (.ifCond .eq 16, 87, none, [100], .null, [])),
  (87, (.aload_n 0, 88, none, [0], .null, [])),
  (88, (.getfield 19, 91, none, [7, 5, 2, 3228], .null, [])),
  (91, (.bipush 15, 93, none, [], .int 15, [])),
  (93, (.iload 4, 95, none, [4], .null, [])),
  (95, (.iadd, 96, none, [], .null, [])),
  (96, (.iaload, 97, none, [1], .null, [])),
  (97, (.ifCond .le 8, 100, none, [105], .null, [])),
  (100, (.iload 4, 102, some [0, 1, 2, 4], [4], .null, [])),
  (102, (.goto 4, 105, none, [106], .null, [])),
  (105, (.iload_n 3, 106, some [0, 1, 2, 3, 4], [3], .null, [])),
  (106, (.istore_n 3, 107, some [0, 1, 2, 4], [3], .null, [])),
  (107, (.iinc 4 (-1), 110, none, [4], .int (-1), [])),
  (110, (.goto (-97), 113, none, [13], .null, [])),
  (113, (.iload_n 3, 114, none, [3], .null, [])),
  (114, (.ireturn, 115, none, [0], .null, []))]
def qm_66 : qM := (((⟨"PlushFlocksModel", "beyond", "(IZ)I"⟩ : MethodName), prog_9_method_22_code, 6, (Option.some Jvm.ClassFile.FieldType.int)), ("PlushFlocksModel", 7, 1), [4084, 1007, 4083, 40, 3], qc_66)
/-- 67: PlushFlocksModel.steps()I -/
def qc_67 : List (Nat × qI) := [(0, (.iconst 0, 1, none, [], .int 0, [])),
  (1, (.istore_n 1, 2, none, [1], .null, [])),
  (2, (.iconst 0, 3, none, [], .int 0, [])),
  (3, (.istore_n 2, 4, none, [2], .null, [])),
  (4, (.iload_n 2, 5, some [0, 1, 2], [2], .null, [])),
  (5, (.aload_n 0, 6, none, [0], .null, [])),
  (6, (.getfield 13, 9, none, [7, 3, 2, 3226], .null, [])),
  (9, (.iconst 1, 10, none, [], .int 1, [])),
  (10, (.iaload, 11, none, [1], .null, [])),
  (11, (.if_icmp .ge 222, 14, none, [233], .null, [])),
  (14, (.aload_n 0, 15, none, [0], .null, [])),
  (15, (.getfield 19, 18, none, [7, 5, 2, 3228], .null, [])),
  (18, (.iload_n 2, 19, none, [2], .null, [])),
  (19, (.iaload, 20, none, [1], .null, [])),
  (20, (.istore_n 3, 21, none, [3], .null, [])),
  (21, (.aload_n 0, 22, none, [0], .null, [])),
  (22, (.getfield 19, 25, none, [7, 5, 2, 3228], .null, [])),
  (25, (.bipush 20, 27, none, [], .int 20, [])),
  (27, (.iaload, 28, none, [1], .null, [])),
  (28, (.iload_n 3, 29, none, [3], .null, [])),
  (29, (.invokestatic 105, 32, none, [64, 2, 1, 4078, 0], .null, [])),
  (32, (.istore 4, 34, none, [4], .null, [])),
  (34, (.iload 4, 36, none, [4], .null, [])),
  (36, (.ifCond .ne 15, 39, none, [51], .null, [])),
  (39, (.aload_n 0, 40, none, [0], .null, [])),
  (40, (.getfield 19, 43, none, [7, 5, 2, 3228], .null, [])),
  (43, (.bipush 15, 45, none, [], .int 15, [])),
  (45, (.iload_n 3, 46, none, [3], .null, [])),
  (46, (.iadd, 47, none, [], .null, [])),
  (47, (.iaload, 48, none, [1], .null, [])),
  (48, (.ifCond .ne 42, 51, none, [90], .null, [])),
  (51, (.aload_n 0, 52, some [0, 1, 2, 3, 4], [0], .null, [])),
  (52, (.iload_n 3, 53, none, [3], .null, [])),
  (53, (.iload 4, 55, none, [4], .null, [])),
  (55, (.ifCond .ne 7, 58, none, [62], .null, [])),
  (58, (.iconst 1, 59, none, [], .int 1, [])),
  (59, (.goto 4, 62, none, [63], .null, [])),
  (62, (.iconst 0, 63, none, [], .int 0, [])),
  (63, (.invokevirtual 114, 66, some [0, 1, 2, 3], [66, 3, 1, 4081, 0], .null, [])),
  (66, (.istore 5, 68, none, [5], .null, [])),
  (68, (.aload_n 0, 69, none, [0], .null, [])),
  (69, (.getfield 19, 72, none, [7, 5, 2, 3228], .null, [])),
  (72, (.iload_n 2, 73, none, [2], .null, [])),
  (73, (.iload 5, 75, none, [5], .null, [])),
  (75, (.bipush (-9), 77, none, [], .int (-9), [])),
  (77, (.if_icmp .ne 7, 80, none, [84], .null, [])),
  (80, (.iload_n 3, 81, none, [3], .null, [])),
  (81, (.goto 5, 84, none, [86], .null, [])),
  (84, (.iload 5, 86, none, [5], .null, [])),
  (86, (.iastore, 87, some [0, 1, 2], [], .null, [])),
  (87, (.goto 140, 90, none, [227], .null, [])),
  (90, (.aload_n 0, 91, none, [0], .null, [])),
  (91, (.getfield 19, 94, none, [7, 5, 2, 3228], .null, [])),
  (94, (.bipush 15, 96, none, [], .int 15, [])),
  (96, (.iload_n 3, 97, none, [3], .null, [])),
  (97, (.iadd, 98, none, [], .null, [])),
  (98, (.iaload, 99, none, [1], .null, [])),
  (99, (.aload_n 0, 100, none, [0], .null, [])),
  (100, (.getfield 13, 103, none, [7, 3, 2, 3226], .null, [])),
  (103, (.bipush 25, 105, none, [], .int 25, [])),
  (105, (.iload_n 2, 106, none, [2], .null, [])),
  (106, (.iadd, 107, none, [], .null, [])),
  (107, (.iaload, 108, none, [1], .null, [])),
  (108, (.if_icmp .ge 15, 111, none, [123], .null, [])),
  (111, (.aload_n 0, 112, none, [0], .null, [])),
  (112, (.getfield 19, 115, none, [7, 5, 2, 3228], .null, [])),
  (115, (.bipush 15, 117, none, [], .int 15, [])),
  (117, (.iload_n 3, 118, none, [3], .null, [])),
  (118, (.iadd, 119, none, [], .null, [])),
  (119, (.iaload, 120, none, [1], .null, [])),
  (120, (.goto 12, 123, none, [132], .null, [])),
  (123, (.aload_n 0, 124, none, [0], .null, [])),
  (124, (.getfield 13, 127, none, [7, 3, 2, 3226], .null, [])),
  (127, (.bipush 25, 129, none, [], .int 25, [])),
  (129, (.iload_n 2, 130, none, [2], .null, [])),
  (130, (.iadd, 131, none, [], .null, [])),
  (131, (.iaload, 132, none, [1], .null, [])),
  (132, (.istore 5, 134, some [0, 1, 2, 3], [5], .null, [])),
  (134, (.aload_n 0, 135, none, [0], .null, [])),
  (135, (.getfield 19, 138, none, [7, 5, 2, 3228], .null, [])),
  (138, (.bipush 15, 140, none, [], .int 15, [])),
  (140, (.iload_n 3, 141, none, [3], .null, [])),
  (141, (.iadd, 142, none, [], .null, [])),
  (142, (.dup2, 143, none, [], .null, [])),
  (143, (.iaload, 144, none, [1], .null, [])),
  (144, (.iload 5, 146, none, [5], .null, [])),
  (146, (.isub, 147, none, [], .null, [])),
  (147, (.iastore, 148, none, [], .null, [])),
  (148, (.iload_n 1, 149, none, [1], .null, [])),
  (149, (.iload 5, 151, none, [5], .null, [])),
  (151, (.iadd, 152, none, [], .null, [])),
  (152, (.istore_n 1, 153, none, [1], .null, [])),
  (153, (.aload_n 0, 154, none, [0], .null, [])),
  (154, (.getfield 19, 157, none, [7, 5, 2, 3228], .null, [])),
  (157, (.iconst 5, 158, none, [], .int 5, [])),
  (158, (.iload_n 2, 159, none, [2], .null, [])),
  (159, (.iadd, 160, none, [], .null, [])),
  (160, (.iaload, 161, none, [1], .null, [])),
  (161, (.iload 5, 163, none, [5], .null, [])),
  (163, (.iadd, 164, none, [], .null, [])),
  (164, (.istore 6, 166, none, [6], .null, [])),
  (166, (.aload_n 0, 167, none, [0], .null, [])),
  (167, (.getfield 19, 170, none, [7, 5, 2, 3228], .null, [])),
  (170, (.bipush 10, 172, none, [], .int 10, [])),
  (172, (.iload_n 2, 173, none, [2], .null, [])),
  (173, (.iadd, 174, none, [], .null, [])),
  (174, (.iaload, 175, none, [1], .null, [])),
  (175, (.iload 6, 177, none, [6], .null, [])),
  (177, (.aload_n 0, 178, none, [0], .null, [])),
  (178, (.getfield 13, 181, none, [7, 3, 2, 3226], .null, [])),
  (181, (.iconst 2, 182, none, [], .int 2, [])),
  (182, (.iaload, 183, none, [1], .null, [])),
  (183, (.idiv, 184, none, [], .null, [])),
  (184, (.iadd, 185, none, [], .null, [])),
  (185, (.istore 7, 187, none, [7], .null, [])),
  (187, (.aload_n 0, 188, none, [0], .null, [])),
  (188, (.getfield 19, 191, none, [7, 5, 2, 3228], .null, [])),
  (191, (.iconst 5, 192, none, [], .int 5, [])),
  (192, (.iload_n 2, 193, none, [2], .null, [])),
  (193, (.iadd, 194, none, [], .null, [])),
  (194, (.iload 6, 196, none, [6], .null, [])),
  (196, (.aload_n 0, 197, none, [0], .null, [])),
  (197, (.getfield 13, 200, none, [7, 3, 2, 3226], .null, [])),
  (200, (.iconst 2, 201, none, [], .int 2, [])),
  (201, (.iaload, 202, none, [1], .null, [])),
  (202, (.irem, 203, none, [], .null, [])),
  (203, (.iastore, 204, none, [], .null, [])),
  (204, (.aload_n 0, 205, none, [0], .null, [])),
  (205, (.getfield 19, 208, none, [7, 5, 2, 3228], .null, [])),
  (208, (.bipush 10, 210, none, [], .int 10, [])),
  (210, (.iload_n 2, 211, none, [2], .null, [])),
  (211, (.iadd, 212, none, [], .null, [])),
  (212, (.iload 7, 214, none, [7], .null, [])),
  (214, (.bipush 99, 216, none, [], .int 99, [])),
  (216, (.if_icmp .le 8, 219, none, [224], .null, [])),
  (219, (.bipush 99, 221, none, [], .int 99, [])),
  (221, (.goto 5, 224, none, [226], .null, [])),
  (224, (.iload 7, 226, none, [7], .null, [])),
  (226, (.iastore, 227, some [0, 1, 2], [], .null, [])),
  (227, (.iinc 2 1, 230, some [0, 1, 2], [2], .int 1, [])),
  (230, (.goto (-226), 233, none, [4], .null, [])),
  (233, (.iload_n 1, 234, none, [1], .null, [])),
  (234, (.ireturn, 235, none, [0], .null, []))]
def qm_67 : qM := (((⟨"PlushFlocksModel", "steps", "()I"⟩ : MethodName), prog_9_method_23_code, 8, (Option.some Jvm.ClassFile.FieldType.int)), ("PlushFlocksModel", 7, 1), [4077, 1007, 4076, 39, 1], qc_67)
/-- 68: PlushFlocksModel.lets()V -/
def qc_68 : List (Nat × qI) := [(0, (.iconst 0, 1, none, [], .int 0, [])),
  (1, (.istore_n 1, 2, none, [1], .null, [])),
  (2, (.iload_n 1, 3, some [0, 1], [1], .null, [])),
  (3, (.bipush 22, 5, none, [], .int 22, [])),
  (5, (.if_icmp .ge 21, 8, none, [26], .null, [])),
  (8, (.aload_n 0, 9, none, [0], .null, [])),
  (9, (.getfield 19, 12, none, [7, 5, 2, 3228], .null, [])),
  (12, (.iload_n 1, 13, none, [1], .null, [])),
  (13, (.aload_n 0, 14, none, [0], .null, [])),
  (14, (.getfield 35, 17, none, [7, 16, 2, 3239], .null, [])),
  (17, (.iload_n 1, 18, none, [1], .null, [])),
  (18, (.iaload, 19, none, [1], .null, [])),
  (19, (.iastore, 20, none, [], .null, [])),
  (20, (.iinc 1 1, 23, none, [1], .int 1, [])),
  (23, (.goto (-21), 26, none, [2], .null, [])),
  (26, (.return_, 27, none, [], .null, []))]
def qm_68 : qM := (((⟨"PlushFlocksModel", "lets", "()V"⟩ : MethodName), prog_9_method_25_code, 2, (Option.none : Option Jvm.ClassFile.FieldType)), ("PlushFlocksModel", 7, 1), [4091, 1007, 4090, 41, 1], qc_68)
/-- 69: PlushFlocksModel.bare(I)I -/
def qc_69 : List (Nat × qI) := [(0, (.aload_n 0, 1, none, [0], .null, [])),
  (1, (.invokevirtual 118, 4, none, [63, 1, 0, 4070, 0], .null, [])),
  (4, (.iconst 0, 5, none, [], .int 0, [])),
  (5, (.istore_n 2, 6, none, [2], .null, [])),
  (6, (.iload_n 2, 7, some [0, 1, 2], [2], .null, [])),
  (7, (.bipush 60, 9, none, [], .int 60, [])),
  (9, (.if_icmp .gt 26, 12, none, [35], .null, [])),
  (12, (.aload_n 0, 13, none, [0], .null, [])),
  (13, (.getfield 19, 16, none, [7, 5, 2, 3228], .null, [])),
  (16, (.bipush 15, 18, none, [], .int 15, [])),
  (18, (.iload_n 1, 19, none, [1], .null, [])),
  (19, (.iadd, 20, none, [], .null, [])),
  (20, (.iaload, 21, none, [1], .null, [])),
  (21, (.ifCond .le 14, 24, none, [35], .null, [])),
  (24, (.iinc 2 1, 27, none, [2], .int 1, [])),
  (27, (.aload_n 0, 28, none, [0], .null, [])),
  (28, (.invokevirtual 121, 31, none, [67, 1, 1, 4074, 0], .null, [])),
  (31, (.pop, 32, none, [], .null, [])),
  (32, (.goto (-26), 35, none, [6], .null, [])),
  (35, (.aload_n 0, 36, some [0, 2], [0], .null, [])),
  (36, (.invokevirtual 125, 39, none, [68, 1, 0, 4088, 0], .null, [])),
  (39, (.iload_n 2, 40, none, [2], .null, [])),
  (40, (.bipush 60, 42, none, [], .int 60, [])),
  (42, (.if_icmp .le 8, 45, none, [50], .null, [])),
  (45, (.bipush (-9), 47, none, [], .int (-9), [])),
  (47, (.goto 4, 50, none, [51], .null, [])),
  (50, (.iload_n 2, 51, none, [2], .null, [])),
  (51, (.ireturn, 52, some [], [0], .null, []))]
def qm_69 : qM := (((⟨"PlushFlocksModel", "bare", "(I)I"⟩ : MethodName), prog_9_method_26_code, 3, (Option.some Jvm.ClassFile.FieldType.int)), ("PlushFlocksModel", 7, 1), [4069, 1007, 4068, 37, 2], qc_69)
/-- 70: PlushFlocksModel.room(II)I -/
def qc_70 : List (Nat × qI) := [(0, (.aload_n 0, 1, none, [0], .null, [])),
  (1, (.iload_n 1, 2, none, [1], .null, [])),
  (2, (.invokevirtual 128, 5, none, [61, 2, 1, 4058, 0], .null, [])),
  (5, (.ifCond .ne 5, 8, none, [10], .null, [])),
  (8, (.iconst (-1), 9, none, [], .int (-1), [])),
  (9, (.ireturn, 10, none, [0], .null, [])),
  (10, (.iload_n 2, 11, none, [2], .null, [])),
  (11, (.tableswitch 90 0 5 #[37, 46, 56, 66, 72, 84], 48, none, [101], .null, [(0, 48), (1, 57), (2, 67), (3, 77), (4, 83), (5, 95)])),
  (48, (.aload_n 0, 49, none, [0], .null, [])),
  (49, (.getfield 13, 52, none, [7, 3, 2, 3226], .null, [])),
  (52, (.iconst 5, 53, none, [], .int 5, [])),
  (53, (.iload_n 1, 54, none, [1], .null, [])),
  (54, (.iadd, 55, none, [], .null, [])),
  (55, (.iaload, 56, none, [1], .null, [])),
  (56, (.ireturn, 57, none, [0], .null, [])),
  (57, (.aload_n 0, 58, none, [0], .null, [])),
  (58, (.getfield 19, 61, none, [7, 5, 2, 3228], .null, [])),
  (61, (.bipush 15, 63, none, [], .int 15, [])),
  (63, (.iload_n 1, 64, none, [1], .null, [])),
  (64, (.iadd, 65, none, [], .null, [])),
  (65, (.iaload, 66, none, [1], .null, [])),
  (66, (.ireturn, 67, none, [0], .null, [])),
  (67, (.aload_n 0, 68, none, [0], .null, [])),
  (68, (.getfield 13, 71, none, [7, 3, 2, 3226], .null, [])),
  (71, (.bipush 15, 73, none, [], .int 15, [])),
  (73, (.iload_n 1, 74, none, [1], .null, [])),
  (74, (.iadd, 75, none, [], .null, [])),
  (75, (.iaload, 76, none, [1], .null, [])),
  (76, (.ireturn, 77, none, [0], .null, [])),
  (77, (.aload_n 0, 78, none, [0], .null, [])),
  (78, (.iload_n 1, 79, none, [1], .null, [])),
  (79, (.invokevirtual 108, 82, none, [62, 2, 1, 4062, 0], .null, [])),
  (82, (.ireturn, 83, none, [0], .null, [])),
  (83, (.aload_n 0, 84, none, [0], .null, [])),
  (84, (.getfield 19, 87, none, [7, 5, 2, 3228], .null, [])),
  (87, (.bipush 20, 89, none, [], .int 20, [])),
  (89, (.iaload, 90, none, [1], .null, [])),
  (90, (.iload_n 1, 91, none, [1], .null, [])),
  (91, (.ishr, 92, none, [], .null, [])),
  (92, (.iconst 1, 93, none, [], .int 1, [])),
  (93, (.iand, 94, none, [], .null, [])),
  (94, (.ireturn, 95, none, [0], .null, [])),
  (95, (.aload_n 0, 96, none, [0], .null, [])),
  (96, (.iload_n 1, 97, none, [1], .null, [])),
  (97, (.invokevirtual 131, 100, none, [69, 2, 1, 4066, 0], .null, [])),
  (100, (.ireturn, 101, none, [0], .null, [])),
  (101, (.iconst (-1), 102, none, [], .int (-1), [])),
  (102, (.ireturn, 103, none, [0], .null, []))]
def qm_70 : qM := (((⟨"PlushFlocksModel", "room", "(II)I"⟩ : MethodName), prog_9_method_27_code, 3, (Option.some Jvm.ClassFile.FieldType.int)), ("PlushFlocksModel", 7, 1), [4057, 1007, 4055, 4056, 3], qc_70)
/-- 71: PlushFlocks$Plan.hasFlock(I)Z -/
def qc_71 : List (Nat × qI) := [(0, (.iload_n 1, 1, none, [1], .null, [])),
  (1, (.ifCond .lt 15, 4, none, [16], .null, [])),
  (4, (.iload_n 1, 5, none, [1], .null, [])),
  (5, (.aload_n 0, 6, none, [0], .null, [])),
  (6, (.getfield 15, 9, none, [3, 1, 0, 1031], .null, [])),
  (9, (.if_icmp .ge 7, 12, none, [16], .null, [])),
  (12, (.iconst 1, 13, none, [], .int 1, [])),
  (13, (.goto 4, 16, none, [17], .null, [])),
  (16, (.iconst 0, 17, some [], [], .int 0, [])),
  (17, (.ireturn, 18, some [], [4], .null, []))]
def qm_71 : qM := (((⟨"PlushFlocks$Plan", "hasFlock", "(I)Z"⟩ : MethodName), prog_5_method_3_code, 2, (Option.some Jvm.ClassFile.FieldType.boolean)), ("PlushFlocks$Plan", 3, 1), [2195, 1002, 2193, 2194, 2], qc_71)
/-- 72: PlushFlocks.flock(II)I -/
def qc_72 : List (Nat × qI) := [(0, (.aload_n 0, 1, none, [0], .null, [])),
  (1, (.getfield 20, 4, none, [6, 2, 2, 1195], .null, [])),
  (4, (.iload_n 1, 5, none, [1], .null, [])),
  (5, (.invokevirtual 118, 8, none, [71, 2, 1, 2192, 0], .null, [])),
  (8, (.ifCond .ne 5, 11, none, [13], .null, [])),
  (11, (.iconst (-1), 12, none, [], .int (-1), [])),
  (12, (.ireturn, 13, none, [0], .null, [])),
  (13, (.iload_n 2, 14, none, [2], .null, [])),
  (14, (.tableswitch 110 0 5 #[38, 50, 62, 74, 86, 98], 52, none, [124], .null, [(0, 52), (1, 64), (2, 76), (3, 88), (4, 100), (5, 112)])),
  (52, (.aload_n 0, 53, none, [0], .null, [])),
  (53, (.getfield 20, 56, none, [6, 2, 2, 1195], .null, [])),
  (56, (.getfield 121, 59, none, [3, 7, 0, 1053], .null, [])),
  (59, (.iload_n 1, 60, none, [1], .null, [])),
  (60, (.invokestatic 124, 63, none, [49, 2, 1, 2196, 0], .null, [])),
  (63, (.ireturn, 64, none, [0], .null, [])),
  (64, (.aload_n 0, 65, none, [0], .null, [])),
  (65, (.getfield 20, 68, none, [6, 2, 2, 1195], .null, [])),
  (68, (.getfield 127, 71, none, [3, 8, 1, 1057], .null, [])),
  (71, (.iload_n 1, 72, none, [1], .null, [])),
  (72, (.invokestatic 94, 75, none, [35, 2, 1, 2139, 0], .null, [])),
  (75, (.ireturn, 76, none, [0], .null, [])),
  (76, (.aload_n 0, 77, none, [0], .null, [])),
  (77, (.getfield 20, 80, none, [6, 2, 2, 1195], .null, [])),
  (80, (.getfield 130, 83, none, [3, 9, 1, 1059], .null, [])),
  (83, (.iload_n 1, 84, none, [1], .null, [])),
  (84, (.invokestatic 94, 87, none, [35, 2, 1, 2139, 0], .null, [])),
  (87, (.ireturn, 88, none, [0], .null, [])),
  (88, (.aload_n 0, 89, none, [0], .null, [])),
  (89, (.getfield 27, 92, none, [6, 3, 2, 1196], .null, [])),
  (92, (.getfield 104, 95, none, [0, 0, 0, 1090], .null, [])),
  (95, (.iload_n 1, 96, none, [1], .null, [])),
  (96, (.invokestatic 124, 99, none, [49, 2, 1, 2196, 0], .null, [])),
  (99, (.ireturn, 100, none, [0], .null, [])),
  (100, (.aload_n 0, 101, none, [0], .null, [])),
  (101, (.getfield 27, 104, none, [6, 3, 2, 1196], .null, [])),
  (104, (.getfield 133, 107, none, [0, 2, 1, 1094], .null, [])),
  (107, (.iload_n 1, 108, none, [1], .null, [])),
  (108, (.invokestatic 94, 111, none, [35, 2, 1, 2139, 0], .null, [])),
  (111, (.ireturn, 112, none, [0], .null, [])),
  (112, (.aload_n 0, 113, none, [0], .null, [])),
  (113, (.getfield 27, 116, none, [6, 3, 2, 1196], .null, [])),
  (116, (.getfield 136, 119, none, [0, 3, 1, 1096], .null, [])),
  (119, (.iload_n 1, 120, none, [1], .null, [])),
  (120, (.invokestatic 94, 123, none, [35, 2, 1, 2139, 0], .null, [])),
  (123, (.ireturn, 124, none, [0], .null, [])),
  (124, (.iconst (-1), 125, none, [], .int (-1), [])),
  (125, (.ireturn, 126, none, [0], .null, []))]
def qm_72 : qM := (((⟨"PlushFlocks", "flock", "(II)I"⟩ : MethodName), prog_1_method_6_code, 3, (Option.some Jvm.ClassFile.FieldType.int)), ("PlushFlocks", 6, 1), [2191, 1001, 2189, 2190, 3], qc_72)
/-- 73: PlushFlocksModel.isFlock(I)Z -/
def qc_73 : List (Nat × qI) := [(0, (.iload_n 1, 1, none, [1], .null, [])),
  (1, (.iconst 0, 2, none, [], .int 0, [])),
  (2, (.aload_n 0, 3, none, [0], .null, [])),
  (3, (.getfield 13, 6, none, [7, 3, 2, 3226], .null, [])),
  (6, (.iconst 1, 7, none, [], .int 1, [])),
  (7, (.iaload, 8, none, [1], .null, [])),
  (8, (.iconst 1, 9, none, [], .int 1, [])),
  (9, (.isub, 10, none, [], .null, [])),
  (10, (.invokestatic 52, 13, none, [8, 3, 1, 3200, 0], .null, [])),
  (13, (.ireturn, 14, none, [4], .null, []))]
def qm_73 : qM := (((⟨"PlushFlocksModel", "isFlock", "(I)Z"⟩ : MethodName), prog_9_method_7_code, 2, (Option.some Jvm.ClassFile.FieldType.boolean)), ("PlushFlocksModel", 7, 1), [4099, 1007, 4098, 42, 2], qc_73)
/-- 74: PlushFlocksModel.flock(II)I -/
def qc_74 : List (Nat × qI) := [(0, (.aload_n 0, 1, none, [0], .null, [])),
  (1, (.iload_n 1, 2, none, [1], .null, [])),
  (2, (.invokevirtual 134, 5, none, [73, 2, 1, 4096, 0], .null, [])),
  (5, (.ifCond .ne 5, 8, none, [10], .null, [])),
  (8, (.iconst (-1), 9, none, [], .int (-1), [])),
  (9, (.ireturn, 10, none, [0], .null, [])),
  (10, (.iload_n 2, 11, none, [2], .null, [])),
  (11, (.tableswitch 93 0 5 #[37, 47, 57, 67, 74, 83], 48, none, [104], .null, [(0, 48), (1, 58), (2, 68), (3, 78), (4, 85), (5, 94)])),
  (48, (.aload_n 0, 49, none, [0], .null, [])),
  (49, (.getfield 13, 52, none, [7, 3, 2, 3226], .null, [])),
  (52, (.bipush 20, 54, none, [], .int 20, [])),
  (54, (.iload_n 1, 55, none, [1], .null, [])),
  (55, (.iadd, 56, none, [], .null, [])),
  (56, (.iaload, 57, none, [1], .null, [])),
  (57, (.ireturn, 58, none, [0], .null, [])),
  (58, (.aload_n 0, 59, none, [0], .null, [])),
  (59, (.getfield 13, 62, none, [7, 3, 2, 3226], .null, [])),
  (62, (.bipush 25, 64, none, [], .int 25, [])),
  (64, (.iload_n 1, 65, none, [1], .null, [])),
  (65, (.iadd, 66, none, [], .null, [])),
  (66, (.iaload, 67, none, [1], .null, [])),
  (67, (.ireturn, 68, none, [0], .null, [])),
  (68, (.aload_n 0, 69, none, [0], .null, [])),
  (69, (.getfield 13, 72, none, [7, 3, 2, 3226], .null, [])),
  (72, (.bipush 30, 74, none, [], .int 30, [])),
  (74, (.iload_n 1, 75, none, [1], .null, [])),
  (75, (.iadd, 76, none, [], .null, [])),
  (76, (.iaload, 77, none, [1], .null, [])),
  (77, (.ireturn, 78, none, [0], .null, [])),
  (78, (.aload_n 0, 79, none, [0], .null, [])),
  (79, (.getfield 19, 82, none, [7, 5, 2, 3228], .null, [])),
  (82, (.iload_n 1, 83, none, [1], .null, [])),
  (83, (.iaload, 84, none, [1], .null, [])),
  (84, (.ireturn, 85, none, [0], .null, [])),
  (85, (.aload_n 0, 86, none, [0], .null, [])),
  (86, (.getfield 19, 89, none, [7, 5, 2, 3228], .null, [])),
  (89, (.iconst 5, 90, none, [], .int 5, [])),
  (90, (.iload_n 1, 91, none, [1], .null, [])),
  (91, (.iadd, 92, none, [], .null, [])),
  (92, (.iaload, 93, none, [1], .null, [])),
  (93, (.ireturn, 94, none, [0], .null, [])),
  (94, (.aload_n 0, 95, none, [0], .null, [])),
  (95, (.getfield 19, 98, none, [7, 5, 2, 3228], .null, [])),
  (98, (.bipush 10, 100, none, [], .int 10, [])),
  (100, (.iload_n 1, 101, none, [1], .null, [])),
  (101, (.iadd, 102, none, [], .null, [])),
  (102, (.iaload, 103, none, [1], .null, [])),
  (103, (.ireturn, 104, none, [0], .null, [])),
  (104, (.iconst (-1), 105, none, [], .int (-1), [])),
  (105, (.ireturn, 106, none, [0], .null, []))]
def qm_74 : qM := (((⟨"PlushFlocksModel", "flock", "(II)I"⟩ : MethodName), prog_9_method_28_code, 3, (Option.some Jvm.ClassFile.FieldType.int)), ("PlushFlocksModel", 7, 1), [4095, 1007, 4093, 4094, 3], qc_74)
/-- 75: PlushFlocks$Plan.strays(I)I -/
def qc_75 : List (Nat × qI) := [(0, (.iconst 0, 1, none, [], .int 0, [])),
  (1, (.istore_n 2, 2, none, [2], .null, [])),
  (2, (.iconst 0, 3, none, [], .int 0, [])),
  (3, (.istore_n 3, 4, none, [3], .null, [])),
  (4, (.iload_n 3, 5, some [0, 1, 2, 3], [3], .null, [])),
  (5, (.aload_n 0, 6, none, [0], .null, [])),
  (6, (.getfield 15, 9, none, [3, 1, 0, 1031], .null, [])),
  (9, (.if_icmp .ge 31, 12, none, [40], .null, [])),
  (12, (.iload_n 1, 13, none, [1], .null, [])),
  (13, (.iload_n 3, 14, none, [3], .null, [])),
  (14, (.invokestatic 56, 17, none, [49, 2, 1, 9, 1], .null, [])),
  (17, (.aload_n 0, 18, none, [0], .null, [])),
  (18, (.getfield 35, 21, none, [3, 7, 0, 1050], .null, [])),
  (21, (.iload_n 3, 22, none, [3], .null, [])),
  (22, (.invokestatic 56, 25, none, [49, 2, 1, 9, 1], .null, [])),
  (25, (.if_icmp .eq 9, 28, none, [34], .null, [])),
  (28, (.iload_n 2, 29, none, [2], .null, [])),
  (29, (.iconst 1, 30, none, [], .int 1, [])),
  (30, (.iload_n 3, 31, none, [3], .null, [])),
  (31, (.ishl, 32, none, [], .null, [])),
  (32, (.ior, 33, none, [], .null, [])),
  (33, (.istore_n 2, 34, none, [2], .null, [])),
  (34, (.iinc 3 1, 37, some [0, 1, 2, 3], [3], .int 1, [])),
  (37, (.goto (-33), 40, none, [4], .null, [])),
  (40, (.iload_n 2, 41, none, [2], .null, [])),
  (41, (.ireturn, 42, none, [0], .null, []))]
def qm_75 : qM := (((⟨"PlushFlocks$Plan", "strays", "(I)I"⟩ : MethodName), prog_5_method_9_code, 4, (Option.some Jvm.ClassFile.FieldType.int)), ("PlushFlocks$Plan", 3, 1), [2204, 1002, 2202, 2203, 2], qc_75)
/-- 76: PlushFlocks.sum(J)I -/
def qc_76 : List (Nat × qI) := [(0, (.iconst 0, 1, none, [], .int 0, [])),
  (1, (.istore_n 2, 2, none, [2], .null, [])),
  (2, (.iconst 0, 3, none, [], .int 0, [])),
  (3, (.istore_n 3, 4, none, [3], .null, [])),
  (4, (.iload_n 3, 5, some [0, 2, 3], [3], .null, [])),
  (5, (.iconst 5, 6, none, [], .int 5, [])),
  (6, (.if_icmp .ge 17, 9, none, [23], .null, [])),
  (9, (.iload_n 2, 10, none, [2], .null, [])),
  (10, (.lload_n 0, 11, none, [0], .null, [])),
  (11, (.iload_n 3, 12, none, [3], .null, [])),
  (12, (.invokestatic 94, 15, none, [35, 2, 1, 2139, 0], .null, [])),
  (15, (.iadd, 16, none, [], .null, [])),
  (16, (.istore_n 2, 17, none, [2], .null, [])),
  (17, (.iinc 3 1, 20, none, [3], .int 1, [])),
  (20, (.goto (-16), 23, none, [4], .null, [])),
  (23, (.iload_n 2, 24, none, [2], .null, [])),
  (24, (.ireturn, 25, none, [0], .null, []))]
def qm_76 : qM := (((⟨"PlushFlocks", "sum", "(J)I"⟩ : MethodName), prog_1_method_38_code, 4, (Option.some Jvm.ClassFile.FieldType.int)), ("PlushFlocks", 6, 0), [2207, 1001, 2206, 0, 1], qc_76)
/-- 77: PlushFlocks.now(I)I -/
def qc_77 : List (Nat × qI) := [(0, (.iload_n 1, 1, none, [1], .null, [])),
  (1, (.tableswitch 100 0 5 #[39, 47, 62, 70, 81, 92], 40, none, [101], .null, [(0, 40), (1, 48), (2, 63), (3, 71), (4, 82), (5, 93)])),
  (40, (.aload_n 0, 41, none, [0], .null, [])),
  (41, (.getfield 27, 44, none, [6, 3, 2, 1196], .null, [])),
  (44, (.getfield 139, 47, none, [0, 5, 0, 1101], .null, [])),
  (47, (.ireturn, 48, none, [0], .null, [])),
  (48, (.aload_n 0, 49, none, [0], .null, [])),
  (49, (.getfield 20, 52, none, [6, 2, 2, 1195], .null, [])),
  (52, (.aload_n 0, 53, none, [0], .null, [])),
  (53, (.getfield 27, 56, none, [6, 3, 2, 1196], .null, [])),
  (56, (.getfield 104, 59, none, [0, 0, 0, 1090], .null, [])),
  (59, (.invokevirtual 142, 62, none, [75, 2, 1, 2201, 0], .null, [])),
  (62, (.ireturn, 63, none, [0], .null, [])),
  (63, (.aload_n 0, 64, none, [0], .null, [])),
  (64, (.getfield 27, 67, none, [6, 3, 2, 1196], .null, [])),
  (67, (.getfield 111, 70, none, [0, 4, 0, 1099], .null, [])),
  (70, (.ireturn, 71, none, [0], .null, [])),
  (71, (.aload_n 0, 72, none, [0], .null, [])),
  (72, (.getfield 27, 75, none, [6, 3, 2, 1196], .null, [])),
  (75, (.getfield 98, 78, none, [0, 1, 1, 1092], .null, [])),
  (78, (.invokestatic 145, 81, none, [76, 1, 1, 2205, 0], .null, [])),
  (81, (.ireturn, 82, none, [0], .null, [])),
  (82, (.aload_n 0, 83, none, [0], .null, [])),
  (83, (.getfield 27, 86, none, [6, 3, 2, 1196], .null, [])),
  (86, (.getfield 136, 89, none, [0, 3, 1, 1096], .null, [])),
  (89, (.invokestatic 145, 92, none, [76, 1, 1, 2205, 0], .null, [])),
  (92, (.ireturn, 93, none, [0], .null, [])),
  (93, (.aload_n 0, 94, none, [0], .null, [])),
  (94, (.getfield 37, 97, none, [6, 5, 2, 1198], .null, [])),
  (97, (.getfield 149, 100, none, [2, 2, 0, 1127], .null, [])),
  (100, (.ireturn, 101, none, [0], .null, [])),
  (101, (.iconst (-1), 102, none, [], .int (-1), [])),
  (102, (.ireturn, 103, none, [0], .null, []))]
def qm_77 : qM := (((⟨"PlushFlocks", "now", "(I)I"⟩ : MethodName), prog_1_method_7_code, 2, (Option.some Jvm.ClassFile.FieldType.int)), ("PlushFlocks", 6, 1), [2200, 1001, 2198, 2199, 2], qc_77)
/-- 78: PlushFlocksModel.strays()I -/
def qc_78 : List (Nat × qI) := [(0, (.iconst 0, 1, none, [], .int 0, [])),
  (1, (.istore_n 1, 2, none, [1], .null, [])),
  (2, (.iconst 0, 3, none, [], .int 0, [])),
  (3, (.istore_n 2, 4, none, [2], .null, [])),
  (4, (.iload_n 2, 5, some [0, 1, 2], [2], .null, [])),
  (5, (.aload_n 0, 6, none, [0], .null, [])),
  (6, (.getfield 13, 9, none, [7, 3, 2, 3226], .null, [])),
  (9, (.iconst 1, 10, none, [], .int 1, [])),
  (10, (.iaload, 11, none, [1], .null, [])),
  (11, (.if_icmp .ge 37, 14, none, [48], .null, [])),
  (14, (.iload_n 1, 15, none, [1], .null, [])),
  (15, (.aload_n 0, 16, none, [0], .null, [])),
  (16, (.getfield 19, 19, none, [7, 5, 2, 3228], .null, [])),
  (19, (.iload_n 2, 20, none, [2], .null, [])),
  (20, (.iaload, 21, none, [1], .null, [])),
  (21, (.aload_n 0, 22, none, [0], .null, [])),
  (22, (.getfield 13, 25, none, [7, 3, 2, 3226], .null, [])),
  (25, (.bipush 20, 27, none, [], .int 20, [])),
  (27, (.iload_n 2, 28, none, [2], .null, [])),
  (28, (.iadd, 29, none, [], .null, [])),
  (29, (.iaload, 30, none, [1], .null, [])),
  (30, (.if_icmp .ne 7, 33, none, [37], .null, [])),
  (33, (.iconst 0, 34, none, [], .int 0, [])),
  (34, (.goto 6, 37, none, [40], .null, [])),
  (37, (.iconst 1, 38, none, [], .int 1, [])),
  (38, (.iload_n 2, 39, none, [2], .null, [])),
  (39, (.ishl, 40, none, [], .null, [])),
  (40, (.ior, 41, some [0, 2], [], .null, [])),
  (41, (.istore_n 1, 42, none, [1], .null, [])),
  (42, (.iinc 2 1, 45, none, [2], .int 1, [])),
  (45, (.goto (-41), 48, none, [4], .null, [])),
  (48, (.iload_n 1, 49, none, [1], .null, [])),
  (49, (.ireturn, 50, none, [0], .null, []))]
def qm_78 : qM := (((⟨"PlushFlocksModel", "strays", "()I"⟩ : MethodName), prog_9_method_29_code, 3, (Option.some Jvm.ClassFile.FieldType.int)), ("PlushFlocksModel", 7, 1), [4107, 1007, 4106, 43, 1], qc_78)
/-- 79: PlushFlocksModel.now(I)I -/
def qc_79 : List (Nat × qI) := [(0, (.iconst 0, 1, none, [], .int 0, [])),
  (1, (.istore_n 2, 2, none, [2], .null, [])),
  (2, (.iconst 0, 3, none, [], .int 0, [])),
  (3, (.istore_n 3, 4, none, [3], .null, [])),
  (4, (.iconst 0, 5, none, [], .int 0, [])),
  (5, (.istore 4, 7, none, [4], .null, [])),
  (7, (.iload 4, 9, some [0, 1, 2, 3, 4], [4], .null, [])),
  (9, (.iconst 5, 10, none, [], .int 5, [])),
  (10, (.if_icmp .ge 35, 13, none, [45], .null, [])),
  (13, (.iload_n 2, 14, none, [2], .null, [])),
  (14, (.aload_n 0, 15, none, [0], .null, [])),
  (15, (.getfield 19, 18, none, [7, 5, 2, 3228], .null, [])),
  (18, (.bipush 15, 20, none, [], .int 15, [])),
  (20, (.iload 4, 22, none, [4], .null, [])),
  (22, (.iadd, 23, none, [], .null, [])),
  (23, (.iaload, 24, none, [1], .null, [])),
  (24, (.iadd, 25, none, [], .null, [])),
  (25, (.istore_n 2, 26, none, [2], .null, [])),
  (26, (.iload_n 3, 27, none, [3], .null, [])),
  (27, (.aload_n 0, 28, none, [0], .null, [])),
  (28, (.getfield 19, 31, none, [7, 5, 2, 3228], .null, [])),
  (31, (.bipush 10, 33, none, [], .int 10, [])),
  (33, (.iload 4, 35, none, [4], .null, [])),
  (35, (.iadd, 36, none, [], .null, [])),
  (36, (.iaload, 37, none, [1], .null, [])),
  (37, (.iadd, 38, none, [], .null, [])),
  (38, (.istore_n 3, 39, none, [3], .null, [])),
  (39, (.iinc 4 1, 42, none, [4], .int 1, [])),
  (42, (.goto (-35), 45, none, [7], .null, [])),
  (45, (.iload_n 1, 46, none, [1], .null, [])),
  (46, (.tableswitch 68 0 5 #[38, 46, 51, 59, 61, 63], 84, none, [114], .null, [(0, 84), (1, 92), (2, 97), (3, 105), (4, 107), (5, 109)])),
  (84, (.aload_n 0, 85, none, [0], .null, [])),
  (85, (.getfield 19, 88, none, [7, 5, 2, 3228], .null, [])),
  (88, (.bipush 21, 90, none, [], .int 21, [])),
  (90, (.iaload, 91, none, [1], .null, [])),
  (91, (.ireturn, 92, none, [0], .null, [])),
  (92, (.aload_n 0, 93, none, [0], .null, [])),
  (93, (.invokevirtual 137, 96, none, [78, 1, 1, 4104, 0], .null, [])),
  (96, (.ireturn, 97, none, [0], .null, [])),
  (97, (.aload_n 0, 98, none, [0], .null, [])),
  (98, (.getfield 19, 101, none, [7, 5, 2, 3228], .null, [])),
  (101, (.bipush 20, 103, none, [], .int 20, [])),
  (103, (.iaload, 104, none, [1], .null, [])),
  (104, (.ireturn, 105, none, [0], .null, [])),
  (105, (.iload_n 2, 106, none, [2], .null, [])),
  (106, (.ireturn, 107, none, [0], .null, [])),
  (107, (.iload_n 3, 108, none, [3], .null, [])),
  (108, (.ireturn, 109, none, [0], .null, [])),
  (109, (.aload_n 0, 110, none, [0], .null, [])),
  (110, (.getfield 99, 113, none, [7, 7, 0, 3230], .null, [])),
  (113, (.ireturn, 114, none, [0], .null, [])),
  (114, (.iconst (-1), 115, none, [], .int (-1), [])),
  (115, (.ireturn, 116, none, [0], .null, []))]
def qm_79 : qM := (((⟨"PlushFlocksModel", "now", "(I)I"⟩ : MethodName), prog_9_method_30_code, 5, (Option.some Jvm.ClassFile.FieldType.int)), ("PlushFlocksModel", 7, 1), [4103, 1007, 4101, 4102, 2], qc_79)
/-- 80: PlushFlocks.slot([LPlushFlocks$Evening;I)LPlushFlocks$Evening; -/
def qc_80 : List (Nat × qI) := [(0, (.iload_n 1, 1, none, [1], .null, [])),
  (1, (.ifCond .lt 9, 4, none, [10], .null, [])),
  (4, (.iload_n 1, 5, none, [1], .null, [])),
  (5, (.aload_n 0, 6, none, [0], .null, [])),
  (6, (.arraylength, 7, none, [4], .null, [])),
  (7, (.if_icmp .lt 7, 10, none, [14], .null, [])),
  (10, (.aconst_null, 11, some [], [], .null, [])),
  (11, (.goto 6, 14, none, [17], .null, [])),
  (14, (.aload_n 0, 15, none, [0], .null, [])),
  (15, (.iload_n 1, 16, none, [1], .null, [])),
  (16, (.aaload, 17, none, [], .null, [])),
  (17, (.areturn, 18, some [], [], .null, []))]
def qm_80 : qM := (((⟨"PlushFlocks", "slot", "([LPlushFlocks$Evening;I)LPlushFlocks$Evening;"⟩ : MethodName), prog_1_method_43_code, 2, (Option.some (Jvm.ClassFile.FieldType.object "PlushFlocks$Evening"))), ("PlushFlocks", 6, 0), [2218, 1001, 2217, 0, 2], qc_80)
/-- 81: PlushFlocks$Past.remember(LPlushFlocks$Evening;)V -/
def qc_81 : List (Nat × qI) := [(0, (.aload_n 0, 1, none, [0], .null, [])),
  (1, (.getfield 11, 4, none, [2, 0, 2, 1124], .null, [])),
  (4, (.aload_n 0, 5, none, [0], .null, [])),
  (5, (.getfield 17, 8, none, [2, 1, 0, 1125], .null, [])),
  (8, (.invokestatic 25, 11, none, [80, 2, 3, 17, 1], .null, [])),
  (11, (.astore_n 2, 12, none, [2], .null, [])),
  (12, (.aload_n 2, 13, none, [2], .null, [])),
  (13, (.ifnonnull 4, 16, none, [17], .null, [])),
  (16, (.return_, 17, none, [], .null, [])),
  (17, (.aload_n 2, 18, none, [2], .null, [])),
  (18, (.aload_n 1, 19, none, [1], .null, [])),
  (19, (.invokevirtual 29, 22, none, [51, 2, 0, 2219, 0], .null, [])),
  (22, (.aload_n 0, 23, none, [0], .null, [])),
  (23, (.aload_n 0, 24, none, [0], .null, [])),
  (24, (.getfield 17, 27, none, [2, 1, 0, 1125], .null, [])),
  (27, (.iconst 1, 28, none, [], .int 1, [])),
  (28, (.iadd, 29, none, [], .null, [])),
  (29, (.bipush 10, 31, none, [], .int 10, [])),
  (31, (.irem, 32, none, [], .null, [])),
  (32, (.putfield 17, 35, none, [2, 1, 0, 1125], .null, [])),
  (35, (.aload_n 0, 36, none, [0], .null, [])),
  (36, (.bipush 10, 38, none, [], .int 10, [])),
  (38, (.aload_n 0, 39, none, [0], .null, [])),
  (39, (.getfield 21, 42, none, [2, 2, 0, 1126], .null, [])),
  (42, (.iconst 1, 43, none, [], .int 1, [])),
  (43, (.iadd, 44, none, [], .null, [])),
  (44, (.invokestatic 33, 47, none, [997, 2, 1, 2220, 0], .null, [])),
  (47, (.putfield 21, 50, none, [2, 2, 0, 1126], .null, [])),
  (50, (.return_, 51, none, [], .null, []))]
def qm_81 : qM := (((⟨"PlushFlocks$Past", "remember", "(LPlushFlocks$Evening;)V"⟩ : MethodName), prog_4_method_2_code, 3, (Option.none : Option Jvm.ClassFile.FieldType)), ("PlushFlocks$Past", 2, 1), [2215, 1004, 2213, 2214, 2], qc_81)
/-- 82: PlushFlocks.step()I -/
def qc_82 : List (Nat × qI) := [(0, (.aload_n 0, 1, none, [0], .null, [])),
  (1, (.getfield 37, 4, none, [6, 5, 2, 1198], .null, [])),
  (4, (.aload_n 0, 5, none, [0], .null, [])),
  (5, (.getfield 27, 8, none, [6, 3, 2, 1196], .null, [])),
  (8, (.invokevirtual 160, 11, none, [81, 2, 0, 2212, 0], .null, [])),
  (11, (.aload_n 0, 12, none, [0], .null, [])),
  (12, (.getfield 27, 15, none, [6, 3, 2, 1196], .null, [])),
  (15, (.aload_n 0, 16, none, [0], .null, [])),
  (16, (.getfield 20, 19, none, [6, 2, 2, 1195], .null, [])),
  (19, (.invokevirtual 156, 22, none, [58, 2, 1, 2155, 0], .null, [])),
  (22, (.ireturn, 23, none, [0], .null, []))]
def qm_82 : qM := (((⟨"PlushFlocks", "step", "()I"⟩ : MethodName), prog_1_method_9_code, 1, (Option.some Jvm.ClassFile.FieldType.int)), ("PlushFlocks", 6, 1), [2211, 1001, 2209, 2210, 1], qc_82)
/-- 83: PlushFlocksModel.keeps()V -/
def qc_83 : List (Nat × qI) := [(0, (.aload_n 0, 1, none, [0], .null, [])),
  (1, (.getfield 99, 4, none, [7, 7, 0, 3230], .null, [])),
  (4, (.bipush 10, 6, none, [], .int 10, [])),
  (6, (.if_icmp .ne 43, 9, none, [49], .null, [])),
  (9, (.iconst 0, 10, none, [], .int 0, [])),
  (10, (.istore_n 1, 11, none, [1], .null, [])),
  (11, (.iload_n 1, 12, some [0, 1], [1], .null, [])),
  (12, (.sipush 198, 15, none, [], .int 198, [])),
  (15, (.if_icmp .ge 24, 18, none, [39], .null, [])),
  (18, (.aload_n 0, 19, none, [0], .null, [])),
  (19, (.getfield 22, 22, none, [7, 6, 2, 3229], .null, [])),
  (22, (.iload_n 1, 23, none, [1], .null, [])),
  (23, (.aload_n 0, 24, none, [0], .null, [])),
  (24, (.getfield 22, 27, none, [7, 6, 2, 3229], .null, [])),
  (27, (.iload_n 1, 28, none, [1], .null, [])),
  (28, (.bipush 22, 30, none, [], .int 22, [])),
  (30, (.iadd, 31, none, [], .null, [])),
  (31, (.iaload, 32, none, [1], .null, [])),
  (32, (.iastore, 33, none, [], .null, [])),
  (33, (.iinc 1 1, 36, none, [1], .int 1, [])),
  (36, (.goto (-25), 39, none, [11], .null, [])),
  (39, (.aload_n 0, 40, none, [0], .null, [])),
  (40, (.dup, 41, none, [], .null, [])),
  (41, (.getfield 99, 44, none, [7, 7, 0, 3230], .null, [])),
  (44, (.iconst 1, 45, none, [], .int 1, [])),
  (45, (.isub, 46, none, [], .null, [])),
  (46, (.putfield 99, 49, none, [7, 7, 0, 3230], .null, [])),
  (49, (.iconst 0, 50, some [0], [], .int 0, [])),
  (50, (.istore_n 1, 51, none, [1], .null, [])),
  (51, (.iload_n 1, 52, some [0, 1], [1], .null, [])),
  (52, (.bipush 22, 54, none, [], .int 22, [])),
  (54, (.if_icmp .ge 29, 57, none, [83], .null, [])),
  (57, (.aload_n 0, 58, none, [0], .null, [])),
  (58, (.getfield 22, 61, none, [7, 6, 2, 3229], .null, [])),
  (61, (.bipush 22, 63, none, [], .int 22, [])),
  (63, (.aload_n 0, 64, none, [0], .null, [])),
  (64, (.getfield 99, 67, none, [7, 7, 0, 3230], .null, [])),
  (67, (.imul, 68, none, [], .null, [])),
  (68, (.iload_n 1, 69, none, [1], .null, [])),
  (69, (.iadd, 70, none, [], .null, [])),
  (70, (.aload_n 0, 71, none, [0], .null, [])),
  (71, (.getfield 19, 74, none, [7, 5, 2, 3228], .null, [])),
  (74, (.iload_n 1, 75, none, [1], .null, [])),
  (75, (.iaload, 76, none, [1], .null, [])),
  (76, (.iastore, 77, none, [], .null, [])),
  (77, (.iinc 1 1, 80, none, [1], .int 1, [])),
  (80, (.goto (-29), 83, none, [51], .null, [])),
  (83, (.aload_n 0, 84, none, [0], .null, [])),
  (84, (.dup, 85, none, [], .null, [])),
  (85, (.getfield 99, 88, none, [7, 7, 0, 3230], .null, [])),
  (88, (.iconst 1, 89, none, [], .int 1, [])),
  (89, (.iadd, 90, none, [], .null, [])),
  (90, (.putfield 99, 93, none, [7, 7, 0, 3230], .null, [])),
  (93, (.return_, 94, none, [], .null, []))]
def qm_83 : qM := (((⟨"PlushFlocksModel", "keeps", "()V"⟩ : MethodName), prog_9_method_31_code, 2, (Option.none : Option Jvm.ClassFile.FieldType)), ("PlushFlocksModel", 7, 1), [4115, 1007, 4114, 44, 1], qc_83)
/-- 84: PlushFlocksModel.step()I -/
def qc_84 : List (Nat × qI) := [(0, (.aload_n 0, 1, none, [0], .null, [])),
  (1, (.invokevirtual 140, 4, none, [83, 1, 0, 4112, 0], .null, [])),
  (4, (.aload_n 0, 5, none, [0], .null, [])),
  (5, (.invokevirtual 121, 8, none, [67, 1, 1, 4074, 0], .null, [])),
  (8, (.ireturn, 9, none, [0], .null, []))]
def qm_84 : qM := (((⟨"PlushFlocksModel", "step", "()I"⟩ : MethodName), prog_9_method_32_code, 1, (Option.some Jvm.ClassFile.FieldType.int)), ("PlushFlocksModel", 7, 1), [4111, 1007, 4109, 4110, 1], qc_84)
/-- 85: PlushFlocks.drives(II)I -/
def qc_85 : List (Nat × qI) := [(0, (.aload_n 0, 1, none, [0], .null, [])),
  (1, (.getfield 20, 4, none, [6, 2, 2, 1195], .null, [])),
  (4, (.iload_n 1, 5, none, [1], .null, [])),
  (5, (.invokevirtual 118, 8, none, [71, 2, 1, 2192, 0], .null, [])),
  (8, (.ifCond .eq 14, 11, none, [22], .null, [])),
  (11, (.aload_n 0, 12, none, [0], .null, [])),
  (12, (.getfield 20, 15, none, [6, 2, 2, 1195], .null, [])),
  (15, (.iload_n 2, 16, none, [2], .null, [])),
  (16, (.invokevirtual 87, 19, none, [28, 2, 1, 2138, 0], .null, [])),
  (19, (.ifCond .ne 5, 22, none, [24], .null, [])),
  (22, (.iconst (-1), 23, some [], [], .int (-1), [])),
  (23, (.ireturn, 24, none, [0], .null, [])),
  (24, (.aload_n 0, 25, none, [0], .null, [])),
  (25, (.getfield 27, 28, none, [6, 3, 2, 1196], .null, [])),
  (28, (.getfield 104, 31, none, [0, 0, 0, 1090], .null, [])),
  (31, (.iload_n 1, 32, none, [1], .null, [])),
  (32, (.invokestatic 124, 35, none, [49, 2, 1, 2196, 0], .null, [])),
  (35, (.istore_n 3, 36, none, [3], .null, [])),
  (36, (.aload_n 0, 37, none, [0], .null, [])),
  (37, (.getfield 20, 40, none, [6, 2, 2, 1195], .null, [])),
  (40, (.getfield 101, 43, none, [3, 6, 1, 1049], .null, [])),
  (43, (.iload_n 3, 44, none, [3], .null, [])),
  (44, (.invokestatic 94, 47, none, [35, 2, 1, 2139, 0], .null, [])),
  (47, (.aload_n 0, 48, none, [0], .null, [])),
  (48, (.getfield 20, 51, none, [6, 2, 2, 1195], .null, [])),
  (51, (.aload_n 0, 52, none, [0], .null, [])),
  (52, (.getfield 27, 55, none, [6, 3, 2, 1196], .null, [])),
  (55, (.getfield 104, 58, none, [0, 0, 0, 1090], .null, [])),
  (58, (.aload_n 0, 59, none, [0], .null, [])),
  (59, (.getfield 27, 62, none, [6, 3, 2, 1196], .null, [])),
  (62, (.getfield 111, 65, none, [0, 4, 0, 1099], .null, [])),
  (65, (.invokevirtual 163, 68, none, [54, 3, 1, 2225, 0], .null, [])),
  (68, (.iand, 69, none, [], .null, [])),
  (69, (.istore 4, 71, none, [4], .null, [])),
  (71, (.iload 4, 73, none, [4], .null, [])),
  (73, (.iload_n 2, 74, none, [2], .null, [])),
  (74, (.invokestatic 166, 77, none, [52, 2, 1, 2186, 0], .null, [])),
  (77, (.ifCond .ne 6, 80, none, [83], .null, [])),
  (80, (.bipush (-2), 82, none, [], .int (-2), [])),
  (82, (.ireturn, 83, none, [0], .null, [])),
  (83, (.aload_n 0, 84, none, [0], .null, [])),
  (84, (.getfield 37, 87, none, [6, 5, 2, 1198], .null, [])),
  (87, (.aload_n 0, 88, none, [0], .null, [])),
  (88, (.getfield 27, 91, none, [6, 3, 2, 1196], .null, [])),
  (91, (.invokevirtual 160, 94, none, [81, 2, 0, 2212, 0], .null, [])),
  (94, (.aload_n 0, 95, none, [0], .null, [])),
  (95, (.getfield 27, 98, none, [6, 3, 2, 1196], .null, [])),
  (98, (.aload_n 0, 99, none, [0], .null, [])),
  (99, (.getfield 27, 102, none, [6, 3, 2, 1196], .null, [])),
  (102, (.getfield 104, 105, none, [0, 0, 0, 1090], .null, [])),
  (105, (.iload_n 1, 106, none, [1], .null, [])),
  (106, (.iload_n 2, 107, none, [2], .null, [])),
  (107, (.invokestatic 170, 110, none, [37, 3, 1, 2226, 0], .null, [])),
  (110, (.putfield 104, 113, none, [0, 0, 0, 1090], .null, [])),
  (113, (.iload_n 3, 114, none, [3], .null, [])),
  (114, (.ireturn, 115, none, [0], .null, []))]
def qm_85 : qM := (((⟨"PlushFlocks", "drives", "(II)I"⟩ : MethodName), prog_1_method_10_code, 5, (Option.some Jvm.ClassFile.FieldType.int)), ("PlushFlocks", 6, 1), [2224, 1001, 2222, 2223, 3], qc_85)
/-- 86: PlushFlocksModel.mayDrive(II)Z -/
def qc_86 : List (Nat × qI) := [(0, (.aload_n 0, 1, none, [0], .null, [])),
  (1, (.getfield 13, 4, none, [7, 3, 2, 3226], .null, [])),
  (4, (.bipush 15, 6, none, [], .int 15, [])),
  (6, (.aload_n 0, 7, none, [0], .null, [])),
  (7, (.getfield 19, 10, none, [7, 5, 2, 3228], .null, [])),
  (10, (.iload_n 1, 11, none, [1], .null, [])),
  (11, (.iaload, 12, none, [1], .null, [])),
  (12, (.iadd, 13, none, [], .null, [])),
  (13, (.iaload, 14, none, [1], .null, [])),
  (14, (.iload_n 2, 15, none, [2], .null, [])),
  (15, (.invokestatic 105, 18, none, [64, 2, 1, 4078, 0], .null, [])),
  (18, (.ifCond .eq 40, 21, none, [58], .null, [])),
  (21, (.aload_n 0, 22, none, [0], .null, [])),
  (22, (.getfield 19, 25, none, [7, 5, 2, 3228], .null, [])),
  (25, (.bipush 20, 27, none, [], .int 20, [])),
  (27, (.iaload, 28, none, [1], .null, [])),
  (28, (.iload_n 2, 29, none, [2], .null, [])),
  (29, (.invokestatic 105, 32, none, [64, 2, 1, 4078, 0], .null, [])),
  (32, (.ifCond .ne 26, 35, none, [58], .null, [])),
  (35, (.aload_n 0, 36, none, [0], .null, [])),
  (36, (.iload_n 2, 37, none, [2], .null, [])),
  (37, (.invokevirtual 108, 40, none, [62, 2, 1, 4062, 0], .null, [])),
  (40, (.invokestatic 111, 43, none, [65, 1, 1, 4085, 0], .null, [])),
  (43, (.aload_n 0, 44, none, [0], .null, [])),
  (44, (.getfield 13, 47, none, [7, 3, 2, 3226], .null, [])),
  (47, (.iconst 5, 48, none, [], .int 5, [])),
  (48, (.iload_n 2, 49, none, [2], .null, [])),
  (49, (.iadd, 50, none, [], .null, [])),
  (50, (.iaload, 51, none, [1], .null, [])),
  (51, (.if_icmp .ge 7, 54, none, [58], .null, [])),
  (54, (.iconst 1, 55, none, [], .int 1, [])),
  (55, (.goto 4, 58, none, [59], .null, [])),
  (58, (.iconst 0, 59, some [], [], .int 0, [])),
  (59, (.ireturn, 60, some [], [4], .null, []))]
def qm_86 : qM := (((⟨"PlushFlocksModel", "mayDrive", "(II)Z"⟩ : MethodName), prog_9_method_33_code, 3, (Option.some Jvm.ClassFile.FieldType.boolean)), ("PlushFlocksModel", 7, 1), [4123, 1007, 4122, 45, 3], qc_86)
/-- 87: PlushFlocksModel.drives(II)I -/
def qc_87 : List (Nat × qI) := [(0, (.aload_n 0, 1, none, [0], .null, [])),
  (1, (.iload_n 1, 2, none, [1], .null, [])),
  (2, (.invokevirtual 134, 5, none, [73, 2, 1, 4096, 0], .null, [])),
  (5, (.ifCond .eq 11, 8, none, [16], .null, [])),
  (8, (.aload_n 0, 9, none, [0], .null, [])),
  (9, (.iload_n 2, 10, none, [2], .null, [])),
  (10, (.invokevirtual 128, 13, none, [61, 2, 1, 4058, 0], .null, [])),
  (13, (.ifCond .ne 5, 16, none, [18], .null, [])),
  (16, (.iconst (-1), 17, some [], [], .int (-1), [])),
  (17, (.ireturn, 18, none, [0], .null, [])),
  (18, (.aload_n 0, 19, none, [0], .null, [])),
  (19, (.iload_n 1, 20, none, [1], .null, [])),
  (20, (.iload_n 2, 21, none, [2], .null, [])),
  (21, (.invokevirtual 143, 24, none, [86, 3, 1, 4120, 0], .null, [])),
  (24, (.ifCond .ne 6, 27, none, [30], .null, [])),
  (27, (.bipush (-2), 29, none, [], .int (-2), [])),
  (29, (.ireturn, 30, none, [0], .null, [])),
  (30, (.aload_n 0, 31, none, [0], .null, [])),
  (31, (.invokevirtual 140, 34, none, [83, 1, 0, 4112, 0], .null, [])),
  (34, (.aload_n 0, 35, none, [0], .null, [])),
  (35, (.getfield 19, 38, none, [7, 5, 2, 3228], .null, [])),
  (38, (.iload_n 1, 39, none, [1], .null, [])),
  (39, (.iaload, 40, none, [1], .null, [])),
  (40, (.istore_n 3, 41, none, [3], .null, [])),
  (41, (.aload_n 0, 42, none, [0], .null, [])),
  (42, (.getfield 19, 45, none, [7, 5, 2, 3228], .null, [])),
  (45, (.iload_n 1, 46, none, [1], .null, [])),
  (46, (.iload_n 2, 47, none, [2], .null, [])),
  (47, (.iastore, 48, none, [], .null, [])),
  (48, (.iload_n 3, 49, none, [3], .null, [])),
  (49, (.ireturn, 50, none, [0], .null, []))]
def qm_87 : qM := (((⟨"PlushFlocksModel", "drives", "(II)I"⟩ : MethodName), prog_9_method_34_code, 4, (Option.some Jvm.ClassFile.FieldType.int)), ("PlushFlocksModel", 7, 1), [4119, 1007, 4117, 4118, 3], qc_87)
/-- 88: java/lang/Integer.bitCount(I)I -/
def qc_88 : List (Nat × qI) := [(0, (.iload_n 0, 1, none, [0], .null, [])),
  (1, (.iload_n 0, 2, none, [0], .null, [])),
  (2, (.iconst 1, 3, none, [], .int 1, [])),
  (3, (.iushr, 4, none, [], .null, [])),
  (4, (.ldc_w 265, 7, none, [2234], .int (1431655765), [])),
  (7, (.iand, 8, none, [], .null, [])),
  (8, (.isub, 9, none, [], .null, [])),
  (9, (.istore_n 0, 10, none, [0], .null, [])),
  (10, (.iload_n 0, 11, none, [0], .null, [])),
  (11, (.ldc_w 266, 14, none, [2235], .int (858993459), [])),
  (14, (.iand, 15, none, [], .null, [])),
  (15, (.iload_n 0, 16, none, [0], .null, [])),
  (16, (.iconst 2, 17, none, [], .int 2, [])),
  (17, (.iushr, 18, none, [], .null, [])),
  (18, (.ldc_w 266, 21, none, [2235], .int (858993459), [])),
  (21, (.iand, 22, none, [], .null, [])),
  (22, (.iadd, 23, none, [], .null, [])),
  (23, (.istore_n 0, 24, none, [0], .null, [])),
  (24, (.iload_n 0, 25, none, [0], .null, [])),
  (25, (.iload_n 0, 26, none, [0], .null, [])),
  (26, (.iconst 4, 27, none, [], .int 4, [])),
  (27, (.iushr, 28, none, [], .null, [])),
  (28, (.iadd, 29, none, [], .null, [])),
  (29, (.ldc_w 267, 32, none, [2236], .int (252645135), [])),
  (32, (.iand, 33, none, [], .null, [])),
  (33, (.istore_n 0, 34, none, [0], .null, [])),
  (34, (.iload_n 0, 35, none, [0], .null, [])),
  (35, (.iload_n 0, 36, none, [0], .null, [])),
  (36, (.bipush 8, 38, none, [], .int 8, [])),
  (38, (.iushr, 39, none, [], .null, [])),
  (39, (.iadd, 40, none, [], .null, [])),
  (40, (.istore_n 0, 41, none, [0], .null, [])),
  (41, (.iload_n 0, 42, none, [0], .null, [])),
  (42, (.iload_n 0, 43, none, [0], .null, [])),
  (43, (.bipush 16, 45, none, [], .int 16, [])),
  (45, (.iushr, 46, none, [], .null, [])),
  (46, (.iadd, 47, none, [], .null, [])),
  (47, (.istore_n 0, 48, none, [0], .null, [])),
  (48, (.iload_n 0, 49, none, [0], .null, [])),
  (49, (.bipush 63, 51, none, [], .int 63, [])),
  (51, (.iand, 52, none, [], .null, [])),
  (52, (.ireturn, 53, none, [0], .null, []))]
def qm_88 : qM := (((⟨"java/lang/Integer", "bitCount", "(I)I"⟩ : MethodName), prog_10_method_49_code, 1, (Option.some Jvm.ClassFile.FieldType.int)), ("java/lang/Integer", 99, 0), [2233, 1010, 2232, 0, 1], qc_88)
/-- 89: PlushFlocks.puts(I)I -/
def qc_89 : List (Nat × qI) := [(0, (.aload_n 0, 1, none, [0], .null, [])),
  (1, (.getfield 20, 4, none, [6, 2, 2, 1195], .null, [])),
  (4, (.iload_n 1, 5, none, [1], .null, [])),
  (5, (.invokevirtual 87, 8, none, [28, 2, 1, 2138, 0], .null, [])),
  (8, (.ifCond .ne 5, 11, none, [13], .null, [])),
  (11, (.iconst (-1), 12, none, [], .int (-1), [])),
  (12, (.ireturn, 13, none, [0], .null, [])),
  (13, (.aload_n 0, 14, none, [0], .null, [])),
  (14, (.getfield 27, 17, none, [6, 3, 2, 1196], .null, [])),
  (17, (.getfield 111, 20, none, [0, 4, 0, 1099], .null, [])),
  (20, (.iload_n 1, 21, none, [1], .null, [])),
  (21, (.invokestatic 166, 24, none, [52, 2, 1, 2186, 0], .null, [])),
  (24, (.ifCond .eq 6, 27, none, [30], .null, [])),
  (27, (.bipush (-2), 29, none, [], .int (-2), [])),
  (29, (.ireturn, 30, none, [0], .null, [])),
  (30, (.aload_n 0, 31, none, [0], .null, [])),
  (31, (.getfield 37, 34, none, [6, 5, 2, 1198], .null, [])),
  (34, (.aload_n 0, 35, none, [0], .null, [])),
  (35, (.getfield 27, 38, none, [6, 3, 2, 1196], .null, [])),
  (38, (.invokevirtual 160, 41, none, [81, 2, 0, 2212, 0], .null, [])),
  (41, (.aload_n 0, 42, none, [0], .null, [])),
  (42, (.getfield 27, 45, none, [6, 3, 2, 1196], .null, [])),
  (45, (.dup, 46, none, [], .null, [])),
  (46, (.getfield 111, 49, none, [0, 4, 0, 1099], .null, [])),
  (49, (.iconst 1, 50, none, [], .int 1, [])),
  (50, (.iload_n 1, 51, none, [1], .null, [])),
  (51, (.ishl, 52, none, [], .null, [])),
  (52, (.ior, 53, none, [], .null, [])),
  (53, (.putfield 111, 56, none, [0, 4, 0, 1099], .null, [])),
  (56, (.aload_n 0, 57, none, [0], .null, [])),
  (57, (.getfield 27, 60, none, [6, 3, 2, 1196], .null, [])),
  (60, (.getfield 111, 63, none, [0, 4, 0, 1099], .null, [])),
  (63, (.invokestatic 174, 66, none, [88, 1, 1, 2231, 0], .null, [])),
  (66, (.ireturn, 67, none, [0], .null, []))]
def qm_89 : qM := (((⟨"PlushFlocks", "puts", "(I)I"⟩ : MethodName), prog_1_method_11_code, 2, (Option.some Jvm.ClassFile.FieldType.int)), ("PlushFlocks", 6, 1), [2230, 1001, 2228, 2229, 2], qc_89)
/-- 90: PlushFlocksModel.puts(I)I -/
def qc_90 : List (Nat × qI) := [(0, (.aload_n 0, 1, none, [0], .null, [])),
  (1, (.iload_n 1, 2, none, [1], .null, [])),
  (2, (.invokevirtual 128, 5, none, [61, 2, 1, 4058, 0], .null, [])),
  (5, (.ifCond .ne 5, 8, none, [10], .null, [])),
  (8, (.iconst (-1), 9, none, [], .int (-1), [])),
  (9, (.ireturn, 10, none, [0], .null, [])),
  (10, (.aload_n 0, 11, none, [0], .null, [])),
  (11, (.getfield 19, 14, none, [7, 5, 2, 3228], .null, [])),
  (14, (.bipush 20, 16, none, [], .int 20, [])),
  (16, (.iaload, 17, none, [1], .null, [])),
  (17, (.iload_n 1, 18, none, [1], .null, [])),
  (18, (.invokestatic 105, 21, none, [64, 2, 1, 4078, 0], .null, [])),
  (21, (.ifCond .eq 6, 24, none, [27], .null, [])),
  (24, (.bipush (-2), 26, none, [], .int (-2), [])),
  (26, (.ireturn, 27, none, [0], .null, [])),
  (27, (.aload_n 0, 28, none, [0], .null, [])),
  (28, (.invokevirtual 140, 31, none, [83, 1, 0, 4112, 0], .null, [])),
  (31, (.aload_n 0, 32, none, [0], .null, [])),
  (32, (.getfield 19, 35, none, [7, 5, 2, 3228], .null, [])),
  (35, (.bipush 20, 37, none, [], .int 20, [])),
  (37, (.dup2, 38, none, [], .null, [])),
  (38, (.iaload, 39, none, [1], .null, [])),
  (39, (.iconst 1, 40, none, [], .int 1, [])),
  (40, (.iload_n 1, 41, none, [1], .null, [])),
  (41, (.ishl, 42, none, [], .null, [])),
  (42, (.ior, 43, none, [], .null, [])),
  (43, (.iastore, 44, none, [], .null, [])),
  (44, (.aload_n 0, 45, none, [0], .null, [])),
  (45, (.getfield 19, 48, none, [7, 5, 2, 3228], .null, [])),
  (48, (.bipush 20, 50, none, [], .int 20, [])),
  (50, (.iaload, 51, none, [1], .null, [])),
  (51, (.invokestatic 111, 54, none, [65, 1, 1, 4085, 0], .null, [])),
  (54, (.ireturn, 55, none, [0], .null, []))]
def qm_90 : qM := (((⟨"PlushFlocksModel", "puts", "(I)I"⟩ : MethodName), prog_9_method_35_code, 2, (Option.some Jvm.ClassFile.FieldType.int)), ("PlushFlocksModel", 7, 1), [4127, 1007, 4125, 4126, 2], qc_90)
/-- 91: PlushFlocks.calls(I)I -/
def qc_91 : List (Nat × qI) := [(0, (.aload_n 0, 1, none, [0], .null, [])),
  (1, (.getfield 20, 4, none, [6, 2, 2, 1195], .null, [])),
  (4, (.iload_n 1, 5, none, [1], .null, [])),
  (5, (.invokevirtual 87, 8, none, [28, 2, 1, 2138, 0], .null, [])),
  (8, (.ifCond .ne 5, 11, none, [13], .null, [])),
  (11, (.iconst (-1), 12, none, [], .int (-1), [])),
  (12, (.ireturn, 13, none, [0], .null, [])),
  (13, (.aload_n 0, 14, none, [0], .null, [])),
  (14, (.getfield 27, 17, none, [6, 3, 2, 1196], .null, [])),
  (17, (.getfield 111, 20, none, [0, 4, 0, 1099], .null, [])),
  (20, (.iload_n 1, 21, none, [1], .null, [])),
  (21, (.invokestatic 166, 24, none, [52, 2, 1, 2186, 0], .null, [])),
  (24, (.ifCond .ne 6, 27, none, [30], .null, [])),
  (27, (.bipush (-2), 29, none, [], .int (-2), [])),
  (29, (.ireturn, 30, none, [0], .null, [])),
  (30, (.aload_n 0, 31, none, [0], .null, [])),
  (31, (.getfield 37, 34, none, [6, 5, 2, 1198], .null, [])),
  (34, (.aload_n 0, 35, none, [0], .null, [])),
  (35, (.getfield 27, 38, none, [6, 3, 2, 1196], .null, [])),
  (38, (.invokevirtual 160, 41, none, [81, 2, 0, 2212, 0], .null, [])),
  (41, (.aload_n 0, 42, none, [0], .null, [])),
  (42, (.getfield 27, 45, none, [6, 3, 2, 1196], .null, [])),
  (45, (.dup, 46, none, [], .null, [])),
  (46, (.getfield 111, 49, none, [0, 4, 0, 1099], .null, [])),
  (49, (.iconst 1, 50, none, [], .int 1, [])),
  (50, (.iload_n 1, 51, none, [1], .null, [])),
  (51, (.ishl, 52, none, [], .null, [])),
  (52, (.iconst (-1), 53, none, [], .int (-1), [])),
  (53, (.ixor, 54, none, [], .null, [])),
  (54, (.iand, 55, none, [], .null, [])),
  (55, (.putfield 111, 58, none, [0, 4, 0, 1099], .null, [])),
  (58, (.aload_n 0, 59, none, [0], .null, [])),
  (59, (.getfield 27, 62, none, [6, 3, 2, 1196], .null, [])),
  (62, (.getfield 111, 65, none, [0, 4, 0, 1099], .null, [])),
  (65, (.invokestatic 174, 68, none, [88, 1, 1, 2231, 0], .null, [])),
  (68, (.ireturn, 69, none, [0], .null, []))]
def qm_91 : qM := (((⟨"PlushFlocks", "calls", "(I)I"⟩ : MethodName), prog_1_method_12_code, 2, (Option.some Jvm.ClassFile.FieldType.int)), ("PlushFlocks", 6, 1), [3000, 1001, 2238, 2239, 2], qc_91)
/-- 92: PlushFlocksModel.calls(I)I -/
def qc_92 : List (Nat × qI) := [(0, (.aload_n 0, 1, none, [0], .null, [])),
  (1, (.iload_n 1, 2, none, [1], .null, [])),
  (2, (.invokevirtual 128, 5, none, [61, 2, 1, 4058, 0], .null, [])),
  (5, (.ifCond .ne 5, 8, none, [10], .null, [])),
  (8, (.iconst (-1), 9, none, [], .int (-1), [])),
  (9, (.ireturn, 10, none, [0], .null, [])),
  (10, (.aload_n 0, 11, none, [0], .null, [])),
  (11, (.getfield 19, 14, none, [7, 5, 2, 3228], .null, [])),
  (14, (.bipush 20, 16, none, [], .int 20, [])),
  (16, (.iaload, 17, none, [1], .null, [])),
  (17, (.iload_n 1, 18, none, [1], .null, [])),
  (18, (.invokestatic 105, 21, none, [64, 2, 1, 4078, 0], .null, [])),
  (21, (.ifCond .ne 6, 24, none, [27], .null, [])),
  (24, (.bipush (-2), 26, none, [], .int (-2), [])),
  (26, (.ireturn, 27, none, [0], .null, [])),
  (27, (.aload_n 0, 28, none, [0], .null, [])),
  (28, (.invokevirtual 140, 31, none, [83, 1, 0, 4112, 0], .null, [])),
  (31, (.aload_n 0, 32, none, [0], .null, [])),
  (32, (.getfield 19, 35, none, [7, 5, 2, 3228], .null, [])),
  (35, (.bipush 20, 37, none, [], .int 20, [])),
  (37, (.dup2, 38, none, [], .null, [])),
  (38, (.iaload, 39, none, [1], .null, [])),
  (39, (.iconst 1, 40, none, [], .int 1, [])),
  (40, (.iload_n 1, 41, none, [1], .null, [])),
  (41, (.ishl, 42, none, [], .null, [])),
  (42, (.ixor, 43, none, [], .null, [])),
  (43, (.iastore, 44, none, [], .null, [])),
  (44, (.aload_n 0, 45, none, [0], .null, [])),
  (45, (.getfield 19, 48, none, [7, 5, 2, 3228], .null, [])),
  (48, (.bipush 20, 50, none, [], .int 20, [])),
  (50, (.iaload, 51, none, [1], .null, [])),
  (51, (.invokestatic 111, 54, none, [65, 1, 1, 4085, 0], .null, [])),
  (54, (.ireturn, 55, none, [0], .null, []))]
def qm_92 : qM := (((⟨"PlushFlocksModel", "calls", "(I)I"⟩ : MethodName), prog_9_method_36_code, 2, (Option.some Jvm.ClassFile.FieldType.int)), ("PlushFlocksModel", 7, 1), [4131, 1007, 4129, 4130, 2], qc_92)
/-- 93: PlushFlocks$Evening.brighten(LPlushFlocks$Plan;)V -/
def qc_93 : List (Nat × qI) := [(0, (.iconst 0, 1, none, [], .int 0, [])),
  (1, (.istore_n 2, 2, none, [2], .null, [])),
  (2, (.iload_n 2, 3, some [0, 1, 2], [2], .null, [])),
  (3, (.aload_n 1, 4, none, [1], .null, [])),
  (4, (.getfield 93, 7, none, [3, 0, 0, 1028], .null, [])),
  (7, (.if_icmp .ge 38, 10, none, [45], .null, [])),
  (10, (.aload_n 0, 11, none, [0], .null, [])),
  (11, (.getfield 15, 14, none, [0, 1, 1, 1091], .null, [])),
  (14, (.iload_n 2, 15, none, [2], .null, [])),
  (15, (.invokestatic 52, 18, none, [35, 2, 1, 12, 1], .null, [])),
  (18, (.iconst 5, 19, none, [], .int 5, [])),
  (19, (.iadd, 20, none, [], .null, [])),
  (20, (.istore_n 3, 21, none, [3], .null, [])),
  (21, (.aload_n 0, 22, none, [0], .null, [])),
  (22, (.aload_n 0, 23, none, [0], .null, [])),
  (23, (.getfield 15, 26, none, [0, 1, 1, 1091], .null, [])),
  (26, (.iload_n 2, 27, none, [2], .null, [])),
  (27, (.bipush 60, 29, none, [], .int 60, [])),
  (29, (.iload_n 3, 30, none, [3], .null, [])),
  (30, (.invokestatic 81, 33, none, [997, 2, 1, 2172, 0], .null, [])),
  (33, (.invokestatic 89, 36, none, [33, 3, 2, 13, 1], .null, [])),
  (36, (.putfield 15, 39, none, [0, 1, 1, 1091], .null, [])),
  (39, (.iinc 2 1, 42, none, [2], .int 1, [])),
  (42, (.goto (-40), 45, none, [2], .null, [])),
  (45, (.aload_n 0, 46, none, [0], .null, [])),
  (46, (.dup, 47, none, [], .null, [])),
  (47, (.getfield 28, 50, none, [0, 5, 0, 1100], .null, [])),
  (50, (.iconst 1, 51, none, [], .int 1, [])),
  (51, (.iadd, 52, none, [], .null, [])),
  (52, (.putfield 28, 55, none, [0, 5, 0, 1100], .null, [])),
  (55, (.aload_n 0, 56, none, [0], .null, [])),
  (56, (.iconst 0, 57, none, [], .int 0, [])),
  (57, (.putfield 25, 60, none, [0, 4, 0, 1097], .null, [])),
  (60, (.return_, 61, none, [], .null, []))]
def qm_93 : qM := (((⟨"PlushFlocks$Evening", "brighten", "(LPlushFlocks$Plan;)V"⟩ : MethodName), prog_2_method_8_code, 4, (Option.none : Option Jvm.ClassFile.FieldType)), ("PlushFlocks$Evening", 0, 1), [3008, 1003, 3006, 3007, 2], qc_93)
/-- 94: PlushFlocks.dawn()I -/
def qc_94 : List (Nat × qI) := [(0, (.aload_n 0, 1, none, [0], .null, [])),
  (1, (.getfield 27, 4, none, [6, 3, 2, 1196], .null, [])),
  (4, (.getfield 139, 7, none, [0, 5, 0, 1101], .null, [])),
  (7, (.sipush 999, 10, none, [], .int 999, [])),
  (10, (.if_icmp .lt 6, 13, none, [16], .null, [])),
  (13, (.bipush (-2), 15, none, [], .int (-2), [])),
  (15, (.ireturn, 16, none, [0], .null, [])),
  (16, (.aload_n 0, 17, none, [0], .null, [])),
  (17, (.getfield 37, 20, none, [6, 5, 2, 1198], .null, [])),
  (20, (.aload_n 0, 21, none, [0], .null, [])),
  (21, (.getfield 27, 24, none, [6, 3, 2, 1196], .null, [])),
  (24, (.invokevirtual 160, 27, none, [81, 2, 0, 2212, 0], .null, [])),
  (27, (.aload_n 0, 28, none, [0], .null, [])),
  (28, (.getfield 27, 31, none, [6, 3, 2, 1196], .null, [])),
  (31, (.aload_n 0, 32, none, [0], .null, [])),
  (32, (.getfield 20, 35, none, [6, 2, 2, 1195], .null, [])),
  (35, (.invokevirtual 179, 38, none, [93, 2, 0, 3005, 0], .null, [])),
  (38, (.aload_n 0, 39, none, [0], .null, [])),
  (39, (.getfield 27, 42, none, [6, 3, 2, 1196], .null, [])),
  (42, (.getfield 139, 45, none, [0, 5, 0, 1101], .null, [])),
  (45, (.ireturn, 46, none, [0], .null, []))]
def qm_94 : qM := (((⟨"PlushFlocks", "dawn", "()I"⟩ : MethodName), prog_1_method_13_code, 1, (Option.some Jvm.ClassFile.FieldType.int)), ("PlushFlocks", 6, 1), [3004, 1001, 3002, 3003, 1], qc_94)
/-- 95: PlushFlocksModel.dawn()I -/
def qc_95 : List (Nat × qI) := [(0, (.aload_n 0, 1, none, [0], .null, [])),
  (1, (.getfield 19, 4, none, [7, 5, 2, 3228], .null, [])),
  (4, (.bipush 21, 6, none, [], .int 21, [])),
  (6, (.iaload, 7, none, [1], .null, [])),
  (7, (.sipush 999, 10, none, [], .int 999, [])),
  (10, (.if_icmp .ne 6, 13, none, [16], .null, [])),
  (13, (.bipush (-2), 15, none, [], .int (-2), [])),
  (15, (.ireturn, 16, none, [0], .null, [])),
  (16, (.aload_n 0, 17, none, [0], .null, [])),
  (17, (.invokevirtual 140, 20, none, [83, 1, 0, 4112, 0], .null, [])),
  (20, (.iconst 0, 21, none, [], .int 0, [])),
  (21, (.istore_n 1, 22, none, [1], .null, [])),
  (22, (.iload_n 1, 23, some [0, 1], [1], .null, [])),
  (23, (.aload_n 0, 24, none, [0], .null, [])),
  (24, (.getfield 13, 27, none, [7, 3, 2, 3226], .null, [])),
  (27, (.iconst 0, 28, none, [], .int 0, [])),
  (28, (.iaload, 29, none, [1], .null, [])),
  (29, (.if_icmp .ge 48, 32, none, [77], .null, [])),
  (32, (.aload_n 0, 33, none, [0], .null, [])),
  (33, (.getfield 19, 36, none, [7, 5, 2, 3228], .null, [])),
  (36, (.bipush 15, 38, none, [], .int 15, [])),
  (38, (.iload_n 1, 39, none, [1], .null, [])),
  (39, (.iadd, 40, none, [], .null, [])),
  (40, (.aload_n 0, 41, none, [0], .null, [])),
  (41, (.getfield 19, 44, none, [7, 5, 2, 3228], .null, [])),
  (44, (.bipush 15, 46, none, [], .int 15, [])),
  (46, (.iload_n 1, 47, none, [1], .null, [])),
  (47, (.iadd, 48, none, [], .null, [])),
  (48, (.iaload, 49, none, [1], .null, [])),
  (49, (.bipush 55, 51, none, [], .int 55, [])),
  (51, (.if_icmp .le 8, 54, none, [59], .null, [])),
  (54, (.bipush 60, 56, none, [], .int 60, [])),
  (56, (.goto 14, 59, none, [70], .null, [])),
  (59, (.aload_n 0, 60, none, [0], .null, [])),
  (60, (.getfield 19, 63, none, [7, 5, 2, 3228], .null, [])),
  (63, (.bipush 15, 65, none, [], .int 15, [])),
  (65, (.iload_n 1, 66, none, [1], .null, [])),
  (66, (.iadd, 67, none, [], .null, [])),
  (67, (.iaload, 68, none, [1], .null, [])),
  (68, (.iconst 5, 69, none, [], .int 5, [])),
  (69, (.iadd, 70, none, [], .null, [])),
  (70, (.iastore, 71, some [0, 1], [], .null, [])),
  (71, (.iinc 1 1, 74, none, [1], .int 1, [])),
  (74, (.goto (-52), 77, none, [22], .null, [])),
  (77, (.aload_n 0, 78, none, [0], .null, [])),
  (78, (.getfield 19, 81, none, [7, 5, 2, 3228], .null, [])),
  (81, (.bipush 20, 83, none, [], .int 20, [])),
  (83, (.iconst 0, 84, none, [], .int 0, [])),
  (84, (.iastore, 85, none, [], .null, [])),
  (85, (.aload_n 0, 86, none, [0], .null, [])),
  (86, (.getfield 19, 89, none, [7, 5, 2, 3228], .null, [])),
  (89, (.bipush 21, 91, none, [], .int 21, [])),
  (91, (.dup2, 92, none, [], .null, [])),
  (92, (.iaload, 93, none, [1], .null, [])),
  (93, (.iconst 1, 94, none, [], .int 1, [])),
  (94, (.iadd, 95, none, [], .null, [])),
  (95, (.iastore, 96, none, [], .null, [])),
  (96, (.aload_n 0, 97, none, [0], .null, [])),
  (97, (.getfield 19, 100, none, [7, 5, 2, 3228], .null, [])),
  (100, (.bipush 21, 102, none, [], .int 21, [])),
  (102, (.iaload, 103, none, [1], .null, [])),
  (103, (.ireturn, 104, none, [0], .null, []))]
def qm_95 : qM := (((⟨"PlushFlocksModel", "dawn", "()I"⟩ : MethodName), prog_9_method_37_code, 2, (Option.some Jvm.ClassFile.FieldType.int)), ("PlushFlocksModel", 7, 1), [4135, 1007, 4133, 4134, 1], qc_95)
/-- 96: PlushFlocks$Past.giveBack(LPlushFlocks$Evening;)Z -/
def qc_96 : List (Nat × qI) := [(0, (.aload_n 0, 1, none, [0], .null, [])),
  (1, (.getfield 17, 4, none, [2, 1, 0, 1125], .null, [])),
  (4, (.bipush 10, 6, none, [], .int 10, [])),
  (6, (.iadd, 7, none, [], .null, [])),
  (7, (.iconst 1, 8, none, [], .int 1, [])),
  (8, (.isub, 9, none, [], .null, [])),
  (9, (.bipush 10, 11, none, [], .int 10, [])),
  (11, (.irem, 12, none, [], .null, [])),
  (12, (.istore_n 2, 13, none, [2], .null, [])),
  (13, (.aload_n 0, 14, none, [0], .null, [])),
  (14, (.getfield 11, 17, none, [2, 0, 2, 1124], .null, [])),
  (17, (.iload_n 2, 18, none, [2], .null, [])),
  (18, (.invokestatic 25, 21, none, [80, 2, 3, 17, 1], .null, [])),
  (21, (.astore_n 3, 22, none, [3], .null, [])),
  (22, (.aload_n 0, 23, none, [0], .null, [])),
  (23, (.getfield 21, 26, none, [2, 2, 0, 1126], .null, [])),
  (26, (.iconst 1, 27, none, [], .int 1, [])),
  (27, (.if_icmp .lt 7, 30, none, [34], .null, [])),
  (30, (.aload_n 3, 31, none, [3], .null, [])),
  (31, (.ifnonnull 5, 34, none, [36], .null, [])),
  (34, (.iconst 0, 35, some [], [], .int 0, [])),
  (35, (.ireturn, 36, none, [4], .null, [])),
  (36, (.aload_n 1, 37, none, [1], .null, [])),
  (37, (.aload_n 3, 38, none, [3], .null, [])),
  (38, (.invokevirtual 29, 41, none, [51, 2, 0, 2219, 0], .null, [])),
  (41, (.aload_n 0, 42, none, [0], .null, [])),
  (42, (.iload_n 2, 43, none, [2], .null, [])),
  (43, (.putfield 17, 46, none, [2, 1, 0, 1125], .null, [])),
  (46, (.aload_n 0, 47, none, [0], .null, [])),
  (47, (.dup, 48, none, [], .null, [])),
  (48, (.getfield 21, 51, none, [2, 2, 0, 1126], .null, [])),
  (51, (.iconst 1, 52, none, [], .int 1, [])),
  (52, (.isub, 53, none, [], .null, [])),
  (53, (.putfield 21, 56, none, [2, 2, 0, 1126], .null, [])),
  (56, (.iconst 1, 57, none, [], .int 1, [])),
  (57, (.ireturn, 58, none, [4], .null, []))]
def qm_96 : qM := (((⟨"PlushFlocks$Past", "giveBack", "(LPlushFlocks$Evening;)Z"⟩ : MethodName), prog_4_method_3_code, 4, (Option.some Jvm.ClassFile.FieldType.boolean)), ("PlushFlocks$Past", 2, 1), [3016, 1004, 3014, 3015, 2], qc_96)
/-- 97: PlushFlocks.undo()I -/
def qc_97 : List (Nat × qI) := [(0, (.aload_n 0, 1, none, [0], .null, [])),
  (1, (.getfield 37, 4, none, [6, 5, 2, 1198], .null, [])),
  (4, (.aload_n 0, 5, none, [0], .null, [])),
  (5, (.getfield 27, 8, none, [6, 3, 2, 1196], .null, [])),
  (8, (.invokevirtual 182, 11, none, [96, 2, 1, 3013, 0], .null, [])),
  (11, (.ifCond .eq 13, 14, none, [24], .null, [])),
  (14, (.aload_n 0, 15, none, [0], .null, [])),
  (15, (.getfield 37, 18, none, [6, 5, 2, 1198], .null, [])),
  (18, (.getfield 149, 21, none, [2, 2, 0, 1127], .null, [])),
  (21, (.goto 5, 24, none, [26], .null, [])),
  (24, (.bipush (-2), 26, none, [], .int (-2), [])),
  (26, (.ireturn, 27, some [], [0], .null, []))]
def qm_97 : qM := (((⟨"PlushFlocks", "undo", "()I"⟩ : MethodName), prog_1_method_14_code, 1, (Option.some Jvm.ClassFile.FieldType.int)), ("PlushFlocks", 6, 1), [3012, 1001, 3010, 3011, 1], qc_97)
/-- 98: PlushFlocksModel.undo()I -/
def qc_98 : List (Nat × qI) := [(0, (.aload_n 0, 1, none, [0], .null, [])),
  (1, (.getfield 99, 4, none, [7, 7, 0, 3230], .null, [])),
  (4, (.ifCond .ne 6, 7, none, [10], .null, [])),
  (7, (.bipush (-2), 9, none, [], .int (-2), [])),
  (9, (.ireturn, 10, none, [0], .null, [])),
  (10, (.aload_n 0, 11, none, [0], .null, [])),
  (11, (.dup, 12, none, [], .null, [])),
  (12, (.getfield 99, 15, none, [7, 7, 0, 3230], .null, [])),
  (15, (.iconst 1, 16, none, [], .int 1, [])),
  (16, (.isub, 17, none, [], .null, [])),
  (17, (.putfield 99, 20, none, [7, 7, 0, 3230], .null, [])),
  (20, (.iconst 0, 21, none, [], .int 0, [])),
  (21, (.istore_n 1, 22, none, [1], .null, [])),
  (22, (.iload_n 1, 23, some [0, 1], [1], .null, [])),
  (23, (.bipush 22, 25, none, [], .int 22, [])),
  (25, (.if_icmp .ge 29, 28, none, [54], .null, [])),
  (28, (.aload_n 0, 29, none, [0], .null, [])),
  (29, (.getfield 19, 32, none, [7, 5, 2, 3228], .null, [])),
  (32, (.iload_n 1, 33, none, [1], .null, [])),
  (33, (.aload_n 0, 34, none, [0], .null, [])),
  (34, (.getfield 22, 37, none, [7, 6, 2, 3229], .null, [])),
  (37, (.bipush 22, 39, none, [], .int 22, [])),
  (39, (.aload_n 0, 40, none, [0], .null, [])),
  (40, (.getfield 99, 43, none, [7, 7, 0, 3230], .null, [])),
  (43, (.imul, 44, none, [], .null, [])),
  (44, (.iload_n 1, 45, none, [1], .null, [])),
  (45, (.iadd, 46, none, [], .null, [])),
  (46, (.iaload, 47, none, [1], .null, [])),
  (47, (.iastore, 48, none, [], .null, [])),
  (48, (.iinc 1 1, 51, none, [1], .int 1, [])),
  (51, (.goto (-29), 54, none, [22], .null, [])),
  (54, (.aload_n 0, 55, none, [0], .null, [])),
  (55, (.getfield 99, 58, none, [7, 7, 0, 3230], .null, [])),
  (58, (.ireturn, 59, none, [0], .null, []))]
def qm_98 : qM := (((⟨"PlushFlocksModel", "undo", "()I"⟩ : MethodName), prog_9_method_38_code, 2, (Option.some Jvm.ClassFile.FieldType.int)), ("PlushFlocksModel", 7, 1), [4139, 1007, 4137, 4138, 1], qc_98)
/-- 99: java/util/Arrays.fill([JJ)V -/
def qc_99 : List (Nat × qI) := [(0, (.iconst 0, 1, none, [], .int 0, [])),
  (1, (.istore_n 3, 2, none, [3], .null, [])),
  (2, (.aload_n 0, 3, none, [0], .null, [])),
  (3, (.arraylength, 4, none, [2], .null, [])),
  (4, (.istore 4, 6, none, [4], .null, [])),
  (6, (.iload_n 3, 7, some [0, 1, 3, 4], [3], .null, [])),
  (7, (.iload 4, 9, none, [4], .null, [])),
  (9, (.if_icmp .ge 13, 12, none, [22], .null, [])),
  (12, (.aload_n 0, 13, none, [0], .null, [])),
  (13, (.iload_n 3, 14, none, [3], .null, [])),
  (14, (.lload_n 1, 15, none, [1], .null, [])),
  (15, (.lastore, 16, none, [], .null, [])),
  (16, (.iinc 3 1, 19, none, [3], .int 1, [])),
  (19, (.goto (-13), 22, none, [6], .null, [])),
  (22, (.return_, 23, none, [], .null, []))]
def qm_99 : qM := (((⟨"java/util/Arrays", "fill", "([JJ)V"⟩ : MethodName), prog_12_method_101_code, 5, (Option.none : Option Jvm.ClassFile.FieldType)), ("java/util/Arrays", 99, 0), [3027, 1011, 3026, 0, 2], qc_99)
/-- 100: PlushFlocks$WayBack.reach(II)Z -/
def qc_100 : List (Nat × qI) := [(0, (.iload_n 1, 1, none, [1], .null, [])),
  (1, (.bipush 6, 3, none, [], .int 6, [])),
  (3, (.ishr, 4, none, [], .null, [])),
  (4, (.istore_n 3, 5, none, [3], .null, [])),
  (5, (.iload_n 3, 6, none, [3], .null, [])),
  (6, (.ifCond .lt 31, 9, none, [37], .null, [])),
  (9, (.iload_n 3, 10, none, [3], .null, [])),
  (10, (.aload_n 0, 11, none, [0], .null, [])),
  (11, (.getfield 15, 14, none, [5, 1, 2, 1174], .null, [])),
  (14, (.arraylength, 15, none, [2], .null, [])),
  (15, (.if_icmp .ge 22, 18, none, [37], .null, [])),
  (18, (.aload_n 0, 19, none, [0], .null, [])),
  (19, (.getfield 19, 22, none, [5, 2, 0, 1175], .null, [])),
  (22, (.ifCond .lt 15, 25, none, [37], .null, [])),
  (25, (.aload_n 0, 26, none, [0], .null, [])),
  (26, (.getfield 19, 29, none, [5, 2, 0, 1175], .null, [])),
  (29, (.aload_n 0, 30, none, [0], .null, [])),
  (30, (.getfield 11, 33, none, [5, 0, 2, 1173], .null, [])),
  (33, (.arraylength, 34, none, [1], .null, [])),
  (34, (.if_icmp .lt 5, 37, none, [39], .null, [])),
  (37, (.iconst 0, 38, some [], [], .int 0, [])),
  (38, (.ireturn, 39, none, [4], .null, [])),
  (39, (.aload_n 0, 40, none, [0], .null, [])),
  (40, (.getfield 15, 43, none, [5, 1, 2, 1174], .null, [])),
  (43, (.iload_n 3, 44, none, [3], .null, [])),
  (44, (.laload, 45, none, [], .null, [])),
  (45, (.iload_n 1, 46, none, [1], .null, [])),
  (46, (.bipush 63, 48, none, [], .int 63, [])),
  (48, (.iand, 49, none, [], .null, [])),
  (49, (.lshr, 50, none, [], .null, [])),
  (50, (.lconst 1, 51, none, [], .long 1, [])),
  (51, (.land, 52, none, [], .null, [])),
  (52, (.lconst 1, 53, none, [], .long 1, [])),
  (53, (.lcmp, 54, none, [], .null, [])),
  (54, (.ifCond .ne 5, 57, none, [59], .null, [])),
  (57, (.iconst 0, 58, none, [], .int 0, [])),
  (58, (.ireturn, 59, none, [4], .null, [])),
  (59, (.aload_n 0, 60, none, [0], .null, [])),
  (60, (.getfield 15, 63, none, [5, 1, 2, 1174], .null, [])),
  (63, (.iload_n 3, 64, none, [3], .null, [])),
  (64, (.dup2, 65, none, [], .null, [])),
  (65, (.laload, 66, none, [], .null, [])),
  (66, (.lconst 1, 67, none, [], .long 1, [])),
  (67, (.iload_n 1, 68, none, [1], .null, [])),
  (68, (.bipush 63, 70, none, [], .int 63, [])),
  (70, (.iand, 71, none, [], .null, [])),
  (71, (.lshl, 72, none, [], .null, [])),
  (72, (.lor, 73, none, [], .null, [])),
  (73, (.lastore, 74, none, [], .null, [])),
  (74, (.aload_n 0, 75, none, [0], .null, [])),
  (75, (.getfield 11, 78, none, [5, 0, 2, 1173], .null, [])),
  (78, (.aload_n 0, 79, none, [0], .null, [])),
  (79, (.getfield 19, 82, none, [5, 2, 0, 1175], .null, [])),
  (82, (.iload_n 2, 83, none, [2], .null, [])),
  (83, (.bipush 15, 85, none, [], .int 15, [])),
  (85, (.ishl, 86, none, [], .null, [])),
  (86, (.iload_n 1, 87, none, [1], .null, [])),
  (87, (.ior, 88, none, [], .null, [])),
  (88, (.iastore, 89, none, [], .null, [])),
  (89, (.aload_n 0, 90, none, [0], .null, [])),
  (90, (.dup, 91, none, [], .null, [])),
  (91, (.getfield 19, 94, none, [5, 2, 0, 1175], .null, [])),
  (94, (.iconst 1, 95, none, [], .int 1, [])),
  (95, (.iadd, 96, none, [], .null, [])),
  (96, (.putfield 19, 99, none, [5, 2, 0, 1175], .null, [])),
  (99, (.iconst 1, 100, none, [], .int 1, [])),
  (100, (.ireturn, 101, none, [4], .null, []))]
def qm_100 : qM := (((⟨"PlushFlocks$WayBack", "reach", "(II)Z"⟩ : MethodName), prog_7_method_5_code, 4, (Option.some Jvm.ClassFile.FieldType.boolean)), ("PlushFlocks$WayBack", 5, 1), [3031, 1006, 3030, 15, 3], qc_100)
/-- 101: PlushFlocks$WayBack.arrive(III)V -/
def qc_101 : List (Nat × qI) := [(0, (.aload_n 0, 1, none, [0], .null, [])),
  (1, (.iload_n 1, 2, none, [1], .null, [])),
  (2, (.iload_n 2, 3, none, [2], .null, [])),
  (3, (.invokevirtual 45, 6, none, [100, 3, 1, 3028, 0], .null, [])),
  (6, (.ifCond .eq 22, 9, none, [28], .null, [])),
  (9, (.iload_n 1, 10, none, [1], .null, [])),
  (10, (.iload_n 3, 11, none, [3], .null, [])),
  (11, (.if_icmp .ne 17, 14, none, [28], .null, [])),
  (14, (.aload_n 0, 15, none, [0], .null, [])),
  (15, (.getfield 26, 18, none, [5, 4, 0, 1178], .null, [])),
  (18, (.bipush (-9), 20, none, [], .int (-9), [])),
  (20, (.if_icmp .ne 8, 23, none, [28], .null, [])),
  (23, (.aload_n 0, 24, none, [0], .null, [])),
  (24, (.iload_n 2, 25, none, [2], .null, [])),
  (25, (.putfield 26, 28, none, [5, 4, 0, 1178], .null, [])),
  (28, (.return_, 29, some [], [], .null, []))]
def qm_101 : qM := (((⟨"PlushFlocks$WayBack", "arrive", "(III)V"⟩ : MethodName), prog_7_method_4_code, 4, (Option.none : Option Jvm.ClassFile.FieldType)), ("PlushFlocks$WayBack", 5, 1), [3044, 1006, 3043, 17, 4], qc_101)
/-- 102: PlushFlocks$WayBack.spread(LPlushFlocks$Plan;II)V -/
def qc_102 : List (Nat × qI) := [(0, (.iload_n 3, 1, none, [3], .null, [])),
  (1, (.ifCond .lt 12, 4, none, [13], .null, [])),
  (4, (.iload_n 3, 5, none, [3], .null, [])),
  (5, (.aload_n 0, 6, none, [0], .null, [])),
  (6, (.getfield 11, 9, none, [5, 0, 2, 1173], .null, [])),
  (9, (.arraylength, 10, none, [1], .null, [])),
  (10, (.if_icmp .lt 4, 13, none, [14], .null, [])),
  (13, (.return_, 14, some [], [], .null, [])),
  (14, (.aload_n 0, 15, none, [0], .null, [])),
  (15, (.getfield 11, 18, none, [5, 0, 2, 1173], .null, [])),
  (18, (.iload_n 3, 19, none, [3], .null, [])),
  (19, (.iaload, 20, none, [1], .null, [])),
  (20, (.sipush 32767, 23, none, [], .int 32767, [])),
  (23, (.iand, 24, none, [], .null, [])),
  (24, (.istore 4, 26, none, [4], .null, [])),
  (26, (.aload_n 0, 27, none, [0], .null, [])),
  (27, (.getfield 11, 30, none, [5, 0, 2, 1173], .null, [])),
  (30, (.iload_n 3, 31, none, [3], .null, [])),
  (31, (.iaload, 32, none, [1], .null, [])),
  (32, (.bipush 15, 34, none, [], .int 15, [])),
  (34, (.ishr, 35, none, [], .null, [])),
  (35, (.istore 5, 37, none, [5], .null, [])),
  (37, (.aload_n 1, 38, none, [1], .null, [])),
  (38, (.iload 4, 40, none, [4], .null, [])),
  (40, (.iload_n 2, 41, none, [2], .null, [])),
  (41, (.invokevirtual 56, 44, none, [54, 3, 1, 3036, 0], .null, [])),
  (44, (.istore 6, 46, none, [6], .null, [])),
  (46, (.iconst 0, 47, none, [], .int 0, [])),
  (47, (.istore 7, 49, none, [7], .null, [])),
  (49, (.iload 7, 51, some [0, 1, 4, 5, 6, 7], [7], .null, [])),
  (51, (.aload_n 1, 52, none, [1], .null, [])),
  (52, (.getfield 60, 55, none, [3, 1, 0, 1032], .null, [])),
  (55, (.if_icmp .ge 105, 58, none, [160], .null, [])),
  (58, (.aload_n 1, 59, none, [1], .null, [])),
  (59, (.getfield 63, 62, none, [3, 6, 1, 1047], .null, [])),
  (62, (.iload 4, 64, none, [4], .null, [])),
  (64, (.iload 7, 66, none, [7], .null, [])),
  (66, (.invokestatic 67, 69, none, [49, 2, 1, 18, 1], .null, [])),
  (69, (.invokestatic 70, 72, none, [35, 2, 1, 19, 1], .null, [])),
  (72, (.iload 6, 74, none, [6], .null, [])),
  (74, (.iand, 75, none, [], .null, [])),
  (75, (.istore 8, 77, none, [8], .null, [])),
  (77, (.iconst 0, 78, none, [], .int 0, [])),
  (78, (.istore 9, 80, none, [9], .null, [])),
  (80, (.iload 9, 82, some [0, 1, 4, 5, 6, 7, 8, 9], [9], .null, [])),
  (82, (.aload_n 1, 83, none, [1], .null, [])),
  (83, (.getfield 74, 86, none, [3, 0, 0, 1027], .null, [])),
  (86, (.if_icmp .ge 68, 89, none, [154], .null, [])),
  (89, (.iload 8, 91, none, [8], .null, [])),
  (91, (.iload 9, 93, none, [9], .null, [])),
  (93, (.ishr, 94, none, [], .null, [])),
  (94, (.ifCond .eq 60, 97, none, [154], .null, [])),
  (97, (.iload 8, 99, none, [8], .null, [])),
  (99, (.iload 9, 101, none, [9], .null, [])),
  (101, (.invokestatic 77, 104, none, [52, 2, 1, 20, 1], .null, [])),
  (104, (.ifCond .eq 44, 107, none, [148], .null, [])),
  (107, (.iload 5, 109, none, [5], .null, [])),
  (109, (.bipush 63, 111, none, [], .int 63, [])),
  (111, (.if_icmp .ne 14, 114, none, [125], .null, [])),
  (114, (.bipush 10, 116, none, [], .int 10, [])),
  (116, (.iload 7, 118, none, [7], .null, [])),
  (118, (.imul, 119, none, [], .null, [])),
  (119, (.iload 9, 121, none, [9], .null, [])),
  (121, (.iadd, 122, none, [], .null, [])),
  (122, (.goto 5, 125, none, [127], .null, [])),
  (125, (.iload 5, 127, none, [5], .null, [])),
  (127, (.istore 10, 129, some [0, 1, 4, 5, 6, 7, 8, 9], [10], .null, [])),
  (129, (.aload_n 0, 130, none, [0], .null, [])),
  (130, (.iload 4, 132, none, [4], .null, [])),
  (132, (.iload 7, 134, none, [7], .null, [])),
  (134, (.iload 9, 136, none, [9], .null, [])),
  (136, (.invokestatic 80, 139, none, [37, 3, 1, 21, 1], .null, [])),
  (139, (.iload 10, 141, none, [10], .null, [])),
  (141, (.aload_n 1, 142, none, [1], .null, [])),
  (142, (.getfield 34, 145, none, [3, 7, 0, 1051], .null, [])),
  (145, (.invokevirtual 84, 148, none, [101, 4, 0, 3041, 0], .null, [])),
  (148, (.iinc 9 1, 151, some [0, 1, 4, 5, 6, 7, 8, 9], [9], .int 1, [])),
  (151, (.goto (-71), 154, none, [80], .null, [])),
  (154, (.iinc 7 1, 157, some [0, 1, 4, 5, 6, 7], [7], .int 1, [])),
  (157, (.goto (-108), 160, none, [49], .null, [])),
  (160, (.return_, 161, none, [], .null, []))]
def qm_102 : qM := (((⟨"PlushFlocks$WayBack", "spread", "(LPlushFlocks$Plan;II)V"⟩ : MethodName), prog_7_method_3_code, 11, (Option.none : Option Jvm.ClassFile.FieldType)), ("PlushFlocks$WayBack", 5, 1), [3035, 1006, 3034, 16, 4], qc_102)
/-- 103: PlushFlocks$WayBack.search(LPlushFlocks$Plan;LPlushFlocks$Evening;)V -/
def qc_103 : List (Nat × qI) := [(0, (.aload_n 0, 1, none, [0], .null, [])),
  (1, (.bipush (-9), 3, none, [], .int (-9), [])),
  (3, (.putfield 23, 6, none, [5, 3, 0, 1176], .null, [])),
  (6, (.aload_n 0, 7, none, [0], .null, [])),
  (7, (.bipush (-9), 9, none, [], .int (-9), [])),
  (9, (.putfield 26, 12, none, [5, 4, 0, 1178], .null, [])),
  (12, (.aload_n 2, 13, none, [2], .null, [])),
  (13, (.getfield 29, 16, none, [0, 0, 0, 1089], .null, [])),
  (16, (.aload_n 1, 17, none, [1], .null, [])),
  (17, (.getfield 34, 20, none, [3, 7, 0, 1051], .null, [])),
  (20, (.if_icmp .ne 9, 23, none, [29], .null, [])),
  (23, (.aload_n 0, 24, none, [0], .null, [])),
  (24, (.iconst 0, 25, none, [], .int 0, [])),
  (25, (.putfield 23, 28, none, [5, 3, 0, 1176], .null, [])),
  (28, (.return_, 29, none, [], .null, [])),
  (29, (.aload_n 0, 30, none, [0], .null, [])),
  (30, (.getfield 15, 33, none, [5, 1, 2, 1174], .null, [])),
  (33, (.lconst 0, 34, none, [], .long 0, [])),
  (34, (.invokestatic 39, 37, none, [99, 2, 0, 3025, 0], .null, [])),
  (37, (.aload_n 0, 38, none, [0], .null, [])),
  (38, (.iconst 0, 39, none, [], .int 0, [])),
  (39, (.putfield 19, 42, none, [5, 2, 0, 1175], .null, [])),
  (42, (.aload_n 0, 43, none, [0], .null, [])),
  (43, (.aload_n 2, 44, none, [2], .null, [])),
  (44, (.getfield 29, 47, none, [0, 0, 0, 1089], .null, [])),
  (47, (.bipush 63, 49, none, [], .int 63, [])),
  (49, (.invokevirtual 45, 52, none, [100, 3, 1, 3028, 0], .null, [])),
  (52, (.pop, 53, none, [], .null, [])),
  (53, (.iconst 0, 54, none, [], .int 0, [])),
  (54, (.istore_n 3, 55, none, [3], .null, [])),
  (55, (.iconst 1, 56, none, [], .int 1, [])),
  (56, (.istore 4, 58, none, [4], .null, [])),
  (58, (.iload 4, 60, some [0, 1, 2, 3, 4], [4], .null, [])),
  (60, (.sipush 3125, 63, none, [], .int 3125, [])),
  (63, (.if_icmp .gt 83, 66, none, [146], .null, [])),
  (66, (.iload_n 3, 67, none, [3], .null, [])),
  (67, (.aload_n 0, 68, none, [0], .null, [])),
  (68, (.getfield 19, 71, none, [5, 2, 0, 1175], .null, [])),
  (71, (.if_icmp .ge 75, 74, none, [146], .null, [])),
  (74, (.aload_n 0, 75, none, [0], .null, [])),
  (75, (.getfield 26, 78, none, [5, 4, 0, 1178], .null, [])),
  (78, (.bipush (-9), 80, none, [], .int (-9), [])),
  (80, (.if_icmp .ne 66, 83, none, [146], .null, [])),
  (83, (.aload_n 0, 84, none, [0], .null, [])),
  (84, (.getfield 19, 87, none, [5, 2, 0, 1175], .null, [])),
  (87, (.istore 5, 89, none, [5], .null, [])),
  (89, (.iload_n 3, 90, some [0, 1, 2, 3, 4, 5], [3], .null, [])),
  (90, (.iload 5, 92, none, [5], .null, [])),
  (92, (.if_icmp .ge 28, 95, none, [120], .null, [])),
  (95, (.aload_n 0, 96, none, [0], .null, [])),
  (96, (.getfield 26, 99, none, [5, 4, 0, 1178], .null, [])),
  (99, (.bipush (-9), 101, none, [], .int (-9), [])),
  (101, (.if_icmp .ne 19, 104, none, [120], .null, [])),
  (104, (.aload_n 0, 105, none, [0], .null, [])),
  (105, (.aload_n 1, 106, none, [1], .null, [])),
  (106, (.aload_n 2, 107, none, [2], .null, [])),
  (107, (.getfield 49, 110, none, [0, 4, 0, 1098], .null, [])),
  (110, (.iload_n 3, 111, none, [3], .null, [])),
  (111, (.invokevirtual 52, 114, none, [102, 4, 0, 3032, 0], .null, [])),
  (114, (.iinc 3 1, 117, none, [3], .int 1, [])),
  (117, (.goto (-28), 120, none, [89], .null, [])),
  (120, (.aload_n 0, 121, some [0, 1, 2, 3, 4], [0], .null, [])),
  (121, (.aload_n 0, 122, none, [0], .null, [])),
  (122, (.getfield 26, 125, none, [5, 4, 0, 1178], .null, [])),
  (125, (.bipush (-9), 127, none, [], .int (-9), [])),
  (127, (.if_icmp .ne 8, 130, none, [135], .null, [])),
  (130, (.bipush (-9), 132, none, [], .int (-9), [])),
  (132, (.goto 5, 135, none, [137], .null, [])),
  (135, (.iload 4, 137, none, [4], .null, [])),
  (137, (.putfield 23, 140, some [0, 1, 2, 3, 4], [5, 3, 0, 1176], .null, [])),
  (140, (.iinc 4 1, 143, none, [4], .int 1, [])),
  (143, (.goto (-85), 146, none, [58], .null, [])),
  (146, (.return_, 147, some [], [], .null, []))]
def qm_103 : qM := (((⟨"PlushFlocks$WayBack", "search", "(LPlushFlocks$Plan;LPlushFlocks$Evening;)V"⟩ : MethodName), prog_7_method_2_code, 6, (Option.none : Option Jvm.ClassFile.FieldType)), ("PlushFlocks$WayBack", 5, 1), [3024, 1006, 3022, 3023, 3], qc_103)
/-- 104: PlushFlocks.back(I)I -/
def qc_104 : List (Nat × qI) := [(0, (.iload_n 1, 1, none, [1], .null, [])),
  (1, (.ifCond .eq 10, 4, none, [11], .null, [])),
  (4, (.iload_n 1, 5, none, [1], .null, [])),
  (5, (.iconst 1, 6, none, [], .int 1, [])),
  (6, (.if_icmp .eq 5, 9, none, [11], .null, [])),
  (9, (.iconst (-1), 10, none, [], .int (-1), [])),
  (10, (.ireturn, 11, none, [0], .null, [])),
  (11, (.aload_n 0, 12, some [0, 1], [0], .null, [])),
  (12, (.getfield 58, 15, none, [6, 9, 2, 1202], .null, [])),
  (15, (.aload_n 0, 16, none, [0], .null, [])),
  (16, (.getfield 20, 19, none, [6, 2, 2, 1195], .null, [])),
  (19, (.aload_n 0, 20, none, [0], .null, [])),
  (20, (.getfield 27, 23, none, [6, 3, 2, 1196], .null, [])),
  (23, (.invokevirtual 186, 26, none, [103, 3, 0, 3021, 0], .null, [])),
  (26, (.iload_n 1, 27, none, [1], .null, [])),
  (27, (.ifCond .ne 13, 30, none, [40], .null, [])),
  (30, (.aload_n 0, 31, none, [0], .null, [])),
  (31, (.getfield 58, 34, none, [6, 9, 2, 1202], .null, [])),
  (34, (.getfield 190, 37, none, [5, 3, 0, 1177], .null, [])),
  (37, (.goto 10, 40, none, [47], .null, [])),
  (40, (.aload_n 0, 41, none, [0], .null, [])),
  (41, (.getfield 58, 44, none, [6, 9, 2, 1202], .null, [])),
  (44, (.getfield 193, 47, none, [5, 4, 0, 1179], .null, [])),
  (47, (.ireturn, 48, some [], [0], .null, []))]
def qm_104 : qM := (((⟨"PlushFlocks", "back", "(I)I"⟩ : MethodName), prog_1_method_15_code, 2, (Option.some Jvm.ClassFile.FieldType.int)), ("PlushFlocks", 6, 1), [3020, 1001, 3018, 3019, 2], qc_104)
/-- 105: PlushFlocksModel.codeNow()I -/
def qc_105 : List (Nat × qI) := [(0, (.iconst 0, 1, none, [], .int 0, [])),
  (1, (.istore_n 1, 2, none, [1], .null, [])),
  (2, (.aload_n 0, 3, none, [0], .null, [])),
  (3, (.getfield 13, 6, none, [7, 3, 2, 3226], .null, [])),
  (6, (.iconst 1, 7, none, [], .int 1, [])),
  (7, (.iaload, 8, none, [1], .null, [])),
  (8, (.iconst 1, 9, none, [], .int 1, [])),
  (9, (.isub, 10, none, [], .null, [])),
  (10, (.istore_n 2, 11, none, [2], .null, [])),
  (11, (.iload_n 2, 12, some [0, 1, 2], [2], .null, [])),
  (12, (.ifCond .lt 20, 15, none, [32], .null, [])),
  (15, (.iconst 5, 16, none, [], .int 5, [])),
  (16, (.iload_n 1, 17, none, [1], .null, [])),
  (17, (.imul, 18, none, [], .null, [])),
  (18, (.aload_n 0, 19, none, [0], .null, [])),
  (19, (.getfield 19, 22, none, [7, 5, 2, 3228], .null, [])),
  (22, (.iload_n 2, 23, none, [2], .null, [])),
  (23, (.iaload, 24, none, [1], .null, [])),
  (24, (.iadd, 25, none, [], .null, [])),
  (25, (.istore_n 1, 26, none, [1], .null, [])),
  (26, (.iinc 2 (-1), 29, none, [2], .int (-1), [])),
  (29, (.goto (-18), 32, none, [11], .null, [])),
  (32, (.iload_n 1, 33, none, [1], .null, [])),
  (33, (.ireturn, 34, none, [0], .null, []))]
def qm_105 : qM := (((⟨"PlushFlocksModel", "codeNow", "()I"⟩ : MethodName), prog_9_method_39_code, 3, (Option.some Jvm.ClassFile.FieldType.int)), ("PlushFlocksModel", 7, 1), [4147, 1007, 4146, 46, 1], qc_105)
/-- 106: PlushFlocksModel.isIn([JI)Z -/
def qc_106 : List (Nat × qI) := [(0, (.aload_n 0, 1, none, [0], .null, [])),
  (1, (.iload_n 1, 2, none, [1], .null, [])),
  (2, (.bipush 64, 4, none, [], .int 64, [])),
  (4, (.idiv, 5, none, [], .null, [])),
  (5, (.laload, 6, none, [], .null, [])),
  (6, (.iload_n 1, 7, none, [1], .null, [])),
  (7, (.bipush 64, 9, none, [], .int 64, [])),
  (9, (.irem, 10, none, [], .null, [])),
  (10, (.lshr, 11, none, [], .null, [])),
  (11, (.lconst 1, 12, none, [], .long 1, [])),
  (12, (.land, 13, none, [], .null, [])),
  (13, (.lconst 1, 14, none, [], .long 1, [])),
  (14, (.lcmp, 15, none, [], .null, [])),
  (15, (.ifCond .ne 7, 18, none, [22], .null, [])),
  (18, (.iconst 1, 19, none, [], .int 1, [])),
  (19, (.goto 4, 22, none, [23], .null, [])),
  (22, (.iconst 0, 23, none, [], .int 0, [])),
  (23, (.ireturn, 24, some [], [4], .null, []))]
def qm_106 : qM := (((⟨"PlushFlocksModel", "isIn", "([JI)Z"⟩ : MethodName), prog_9_method_41_code, 2, (Option.some Jvm.ClassFile.FieldType.boolean)), ("PlushFlocksModel", 7, 0), [4150, 1007, 4149, 0, 2], qc_106)
/-- 107: PlushFlocksModel.places(I)V -/
def qc_107 : List (Nat × qI) := [(0, (.iload_n 1, 1, none, [1], .null, [])),
  (1, (.istore_n 2, 2, none, [2], .null, [])),
  (2, (.iconst 0, 3, none, [], .int 0, [])),
  (3, (.istore_n 3, 4, none, [3], .null, [])),
  (4, (.iload_n 3, 5, some [0, 2, 3], [3], .null, [])),
  (5, (.aload_n 0, 6, none, [0], .null, [])),
  (6, (.getfield 13, 9, none, [7, 3, 2, 3226], .null, [])),
  (9, (.iconst 1, 10, none, [], .int 1, [])),
  (10, (.iaload, 11, none, [1], .null, [])),
  (11, (.if_icmp .ge 22, 14, none, [33], .null, [])),
  (14, (.aload_n 0, 15, none, [0], .null, [])),
  (15, (.getfield 19, 18, none, [7, 5, 2, 3228], .null, [])),
  (18, (.iload_n 3, 19, none, [3], .null, [])),
  (19, (.iload_n 2, 20, none, [2], .null, [])),
  (20, (.iconst 5, 21, none, [], .int 5, [])),
  (21, (.irem, 22, none, [], .null, [])),
  (22, (.iastore, 23, none, [], .null, [])),
  (23, (.iload_n 2, 24, none, [2], .null, [])),
  (24, (.iconst 5, 25, none, [], .int 5, [])),
  (25, (.idiv, 26, none, [], .null, [])),
  (26, (.istore_n 2, 27, none, [2], .null, [])),
  (27, (.iinc 3 1, 30, none, [3], .int 1, [])),
  (30, (.goto (-26), 33, none, [4], .null, [])),
  (33, (.return_, 34, none, [], .null, []))]
def qm_107 : qM := (((⟨"PlushFlocksModel", "places", "(I)V"⟩ : MethodName), prog_9_method_40_code, 4, (Option.none : Option Jvm.ClassFile.FieldType)), ("PlushFlocksModel", 7, 1), [4154, 1007, 4153, 47, 2], qc_107)
/-- 108: PlushFlocksModel.firstDrive()I -/
def qc_108 : List (Nat × qI) := [(0, (.iconst 0, 1, none, [], .int 0, [])),
  (1, (.istore_n 1, 2, none, [1], .null, [])),
  (2, (.iload_n 1, 3, some [0, 1], [1], .null, [])),
  (3, (.aload_n 0, 4, none, [0], .null, [])),
  (4, (.getfield 13, 7, none, [7, 3, 2, 3226], .null, [])),
  (7, (.iconst 1, 8, none, [], .int 1, [])),
  (8, (.iaload, 9, none, [1], .null, [])),
  (9, (.if_icmp .ge 103, 12, none, [112], .null, [])),
  (12, (.aload_n 0, 13, none, [0], .null, [])),
  (13, (.getfield 19, 16, none, [7, 5, 2, 3228], .null, [])),
  (16, (.iload_n 1, 17, none, [1], .null, [])),
  (17, (.iaload, 18, none, [1], .null, [])),
  (18, (.istore_n 2, 19, none, [2], .null, [])),
  (19, (.iconst 0, 20, none, [], .int 0, [])),
  (20, (.istore_n 3, 21, none, [3], .null, [])),
  (21, (.iload_n 3, 22, some [0, 1, 2, 3], [3], .null, [])),
  (22, (.aload_n 0, 23, none, [0], .null, [])),
  (23, (.getfield 13, 26, none, [7, 3, 2, 3226], .null, [])),
  (26, (.iconst 0, 27, none, [], .int 0, [])),
  (27, (.iaload, 28, none, [1], .null, [])),
  (28, (.if_icmp .ge 78, 31, none, [106], .null, [])),
  (31, (.aload_n 0, 32, none, [0], .null, [])),
  (32, (.iload_n 1, 33, none, [1], .null, [])),
  (33, (.iload_n 3, 34, none, [3], .null, [])),
  (34, (.invokevirtual 143, 37, none, [86, 3, 1, 4120, 0], .null, [])),
  (37, (.istore 4, 39, none, [4], .null, [])),
  (39, (.aload_n 0, 40, none, [0], .null, [])),
  (40, (.getfield 19, 43, none, [7, 5, 2, 3228], .null, [])),
  (43, (.iload_n 1, 44, none, [1], .null, [])),
  (44, (.iload 4, 46, none, [4], .null, [])),
  (46, (.ifCond .eq 7, 49, none, [53], .null, [])),
  (49, (.iload_n 3, 50, none, [3], .null, [])),
  (50, (.goto 4, 53, none, [54], .null, [])),
  (53, (.iload_n 2, 54, none, [2], .null, [])),
  (54, (.iastore, 55, some [0, 1, 2, 3, 4], [], .null, [])),
  (55, (.iload 4, 57, none, [4], .null, [])),
  (57, (.ifCond .eq 21, 60, none, [78], .null, [])),
  (60, (.aload_n 0, 61, none, [0], .null, [])),
  (61, (.getfield 42, 64, none, [7, 18, 2, 4001], .null, [])),
  (64, (.aload_n 0, 65, none, [0], .null, [])),
  (65, (.invokevirtual 146, 68, none, [105, 1, 1, 4144, 0], .null, [])),
  (68, (.invokestatic 149, 71, none, [106, 2, 1, 4148, 0], .null, [])),
  (71, (.ifCond .eq 7, 74, none, [78], .null, [])),
  (74, (.iconst 1, 75, none, [], .int 1, [])),
  (75, (.goto 4, 78, none, [79], .null, [])),
  (78, (.iconst 0, 79, some [0, 1, 2, 3], [], .int 0, [])),
  (79, (.istore 5, 81, some [0, 1, 2, 3], [5], .null, [])),
  (81, (.aload_n 0, 82, none, [0], .null, [])),
  (82, (.getfield 19, 85, none, [7, 5, 2, 3228], .null, [])),
  (85, (.iload_n 1, 86, none, [1], .null, [])),
  (86, (.iload_n 2, 87, none, [2], .null, [])),
  (87, (.iastore, 88, none, [], .null, [])),
  (88, (.iload 5, 90, none, [5], .null, [])),
  (90, (.ifCond .eq 10, 93, none, [100], .null, [])),
  (93, (.bipush 10, 95, none, [], .int 10, [])),
  (95, (.iload_n 1, 96, none, [1], .null, [])),
  (96, (.imul, 97, none, [], .null, [])),
  (97, (.iload_n 3, 98, none, [3], .null, [])),
  (98, (.iadd, 99, none, [], .null, [])),
  (99, (.ireturn, 100, none, [0], .null, [])),
  (100, (.iinc 3 1, 103, none, [3], .int 1, [])),
  (103, (.goto (-82), 106, none, [21], .null, [])),
  (106, (.iinc 1 1, 109, none, [1], .int 1, [])),
  (109, (.goto (-107), 112, none, [2], .null, [])),
  (112, (.bipush (-9), 114, none, [], .int (-9), [])),
  (114, (.ireturn, 115, none, [0], .null, []))]
def qm_108 : qM := (((⟨"PlushFlocksModel", "firstDrive", "()I"⟩ : MethodName), prog_9_method_42_code, 6, (Option.some Jvm.ClassFile.FieldType.int)), ("PlushFlocksModel", 7, 1), [4158, 1007, 4157, 48, 1], qc_108)
/-- 109: PlushFlocksModel.back(I)I -/
def qc_109 : List (Nat × qI) := [(0, (.iload_n 1, 1, none, [1], .null, [])),
  (1, (.iconst 0, 2, none, [], .int 0, [])),
  (2, (.iconst 1, 3, none, [], .int 1, [])),
  (3, (.invokestatic 52, 6, none, [8, 3, 1, 3200, 0], .null, [])),
  (6, (.ifCond .ne 5, 9, none, [11], .null, [])),
  (9, (.iconst (-1), 10, none, [], .int (-1), [])),
  (10, (.ireturn, 11, none, [0], .null, [])),
  (11, (.aload_n 0, 12, none, [0], .null, [])),
  (12, (.invokevirtual 118, 15, none, [63, 1, 0, 4070, 0], .null, [])),
  (15, (.aload_n 0, 16, none, [0], .null, [])),
  (16, (.invokevirtual 146, 19, none, [105, 1, 1, 4144, 0], .null, [])),
  (19, (.istore_n 2, 20, none, [2], .null, [])),
  (20, (.iconst 0, 21, none, [], .int 0, [])),
  (21, (.istore_n 3, 22, none, [3], .null, [])),
  (22, (.iload_n 3, 23, some [0, 1, 2, 3], [3], .null, [])),
  (23, (.bipush 49, 25, none, [], .int 49, [])),
  (25, (.if_icmp .ge 16, 28, none, [41], .null, [])),
  (28, (.aload_n 0, 29, none, [0], .null, [])),
  (29, (.getfield 38, 32, none, [7, 17, 2, 4000], .null, [])),
  (32, (.iload_n 3, 33, none, [3], .null, [])),
  (33, (.lconst 0, 34, none, [], .long 0, [])),
  (34, (.lastore, 35, none, [], .null, [])),
  (35, (.iinc 3 1, 38, none, [3], .int 1, [])),
  (38, (.goto (-16), 41, none, [22], .null, [])),
  (41, (.iconst 0, 42, none, [], .int 0, [])),
  (42, (.istore_n 3, 43, none, [3], .null, [])),
  (43, (.iload_n 3, 44, some [0, 1, 2, 3], [3], .null, [])),
  (44, (.aload_n 0, 45, none, [0], .null, [])),
  (45, (.getfield 13, 48, none, [7, 3, 2, 3226], .null, [])),
  (48, (.iconst 1, 49, none, [], .int 1, [])),
  (49, (.iaload, 50, none, [1], .null, [])),
  (50, (.if_icmp .ge 24, 53, none, [74], .null, [])),
  (53, (.aload_n 0, 54, none, [0], .null, [])),
  (54, (.getfield 19, 57, none, [7, 5, 2, 3228], .null, [])),
  (57, (.iload_n 3, 58, none, [3], .null, [])),
  (58, (.aload_n 0, 59, none, [0], .null, [])),
  (59, (.getfield 13, 62, none, [7, 3, 2, 3226], .null, [])),
  (62, (.bipush 20, 64, none, [], .int 20, [])),
  (64, (.iload_n 3, 65, none, [3], .null, [])),
  (65, (.iadd, 66, none, [], .null, [])),
  (66, (.iaload, 67, none, [1], .null, [])),
  (67, (.iastore, 68, none, [], .null, [])),
  (68, (.iinc 3 1, 71, none, [3], .int 1, [])),
  (71, (.goto (-28), 74, none, [43], .null, [])),
  (74, (.aload_n 0, 75, none, [0], .null, [])),
  (75, (.getfield 38, 78, none, [7, 17, 2, 4000], .null, [])),
  (78, (.aload_n 0, 79, none, [0], .null, [])),
  (79, (.invokevirtual 146, 82, none, [105, 1, 1, 4144, 0], .null, [])),
  (82, (.bipush 64, 84, none, [], .int 64, [])),
  (84, (.idiv, 85, none, [], .null, [])),
  (85, (.dup2, 86, none, [], .null, [])),
  (86, (.laload, 87, none, [], .null, [])),
  (87, (.lconst 1, 88, none, [], .long 1, [])),
  (88, (.aload_n 0, 89, none, [0], .null, [])),
  (89, (.invokevirtual 146, 92, none, [105, 1, 1, 4144, 0], .null, [])),
  (92, (.bipush 64, 94, none, [], .int 64, [])),
  (94, (.irem, 95, none, [], .null, [])),
  (95, (.lshl, 96, none, [], .null, [])),
  (96, (.lor, 97, none, [], .null, [])),
  (97, (.lastore, 98, none, [], .null, [])),
  (98, (.iconst 0, 99, none, [], .int 0, [])),
  (99, (.istore_n 3, 100, none, [3], .null, [])),
  (100, (.iconst 1, 101, none, [], .int 1, [])),
  (101, (.istore 4, 103, none, [4], .null, [])),
  (103, (.iconst 1, 104, none, [], .int 1, [])),
  (104, (.istore 5, 106, none, [5], .null, [])),
  (106, (.iconst 0, 107, none, [], .int 0, [])),
  (107, (.istore 6, 109, none, [6], .null, [])),
  (109, (.iload 6, 111, some [0, 1, 2, 3, 4, 5, 6], [6], .null, [])),
  (111, (.aload_n 0, 112, none, [0], .null, [])),
  (112, (.getfield 13, 115, none, [7, 3, 2, 3226], .null, [])),
  (115, (.iconst 1, 116, none, [], .int 1, [])),
  (116, (.iaload, 117, none, [1], .null, [])),
  (117, (.if_icmp .ge 15, 120, none, [132], .null, [])),
  (120, (.iload 5, 122, none, [5], .null, [])),
  (122, (.iconst 5, 123, none, [], .int 5, [])),
  (123, (.imul, 124, none, [], .null, [])),
  (124, (.istore 5, 126, none, [5], .null, [])),
  (126, (.iinc 6 1, 129, none, [6], .int 1, [])),
  (129, (.goto (-20), 132, none, [109], .null, [])),
  (132, (.iload 4, 134, some [0, 1, 2, 3, 4, 5], [4], .null, [])),
  (134, (.ifCond .eq 175, 137, none, [309], .null, [])),
  (137, (.aload_n 0, 138, none, [0], .null, [])),
  (138, (.getfield 38, 141, none, [7, 17, 2, 4000], .null, [])),
  (141, (.iload_n 2, 142, none, [2], .null, [])),
  (142, (.invokestatic 149, 145, none, [106, 2, 1, 4148, 0], .null, [])),
  (145, (.ifCond .ne 164, 148, none, [309], .null, [])),
  (148, (.iconst 0, 149, none, [], .int 0, [])),
  (149, (.istore 4, 151, none, [4], .null, [])),
  (151, (.iconst 0, 152, none, [], .int 0, [])),
  (152, (.istore 6, 154, none, [6], .null, [])),
  (154, (.iload 6, 156, some [0, 1, 2, 3, 4, 5, 6], [6], .null, [])),
  (156, (.bipush 49, 158, none, [], .int 49, [])),
  (158, (.if_icmp .ge 23, 161, none, [181], .null, [])),
  (161, (.aload_n 0, 162, none, [0], .null, [])),
  (162, (.getfield 42, 165, none, [7, 18, 2, 4001], .null, [])),
  (165, (.iload 6, 167, none, [6], .null, [])),
  (167, (.aload_n 0, 168, none, [0], .null, [])),
  (168, (.getfield 38, 171, none, [7, 17, 2, 4000], .null, [])),
  (171, (.iload 6, 173, none, [6], .null, [])),
  (173, (.laload, 174, none, [], .null, [])),
  (174, (.lastore, 175, none, [], .null, [])),
  (175, (.iinc 6 1, 178, none, [6], .int 1, [])),
  (178, (.goto (-24), 181, none, [154], .null, [])),
  (181, (.iconst 0, 182, none, [], .int 0, [])),
  (182, (.istore 6, 184, none, [6], .null, [])),
  (184, (.iload 6, 186, some [0, 1, 2, 3, 4, 5, 6], [6], .null, [])),
  (186, (.iload 5, 188, none, [5], .null, [])),
  (188, (.if_icmp .ge 115, 191, none, [303], .null, [])),
  (191, (.aload_n 0, 192, none, [0], .null, [])),
  (192, (.getfield 38, 195, none, [7, 17, 2, 4000], .null, [])),
  (195, (.iload 6, 197, none, [6], .null, [])),
  (197, (.invokestatic 149, 200, none, [106, 2, 1, 4148, 0], .null, [])),
  (200, (.ifCond .ne 97, 203, none, [297], .null, [])),
  (203, (.aload_n 0, 204, none, [0], .null, [])),
  (204, (.iload 6, 206, none, [6], .null, [])),
  (206, (.invokevirtual 153, 209, none, [107, 2, 0, 4151, 0], .null, [])),
  (209, (.iconst 1, 210, none, [], .int 1, [])),
  (210, (.istore 7, 212, none, [7], .null, [])),
  (212, (.iconst 0, 213, none, [], .int 0, [])),
  (213, (.istore 8, 215, none, [8], .null, [])),
  (215, (.iload 8, 217, some [0, 1, 2, 3, 4, 5, 6, 7, 8], [8], .null, [])),
  (217, (.aload_n 0, 218, none, [0], .null, [])),
  (218, (.getfield 13, 221, none, [7, 3, 2, 3226], .null, [])),
  (221, (.iconst 1, 222, none, [], .int 1, [])),
  (222, (.iaload, 223, none, [1], .null, [])),
  (223, (.if_icmp .ge 37, 226, none, [260], .null, [])),
  (226, (.iload 7, 228, none, [7], .null, [])),
  (228, (.ifCond .eq 23, 231, none, [251], .null, [])),
  (231, (.aload_n 0, 232, none, [0], .null, [])),
  (232, (.getfield 19, 235, none, [7, 5, 2, 3228], .null, [])),
  (235, (.iload 8, 237, none, [8], .null, [])),
  (237, (.iaload, 238, none, [1], .null, [])),
  (238, (.aload_n 0, 239, none, [0], .null, [])),
  (239, (.getfield 13, 242, none, [7, 3, 2, 3226], .null, [])),
  (242, (.iconst 0, 243, none, [], .int 0, [])),
  (243, (.iaload, 244, none, [1], .null, [])),
  (244, (.if_icmp .ge 7, 247, none, [251], .null, [])),
  (247, (.iconst 1, 248, none, [], .int 1, [])),
  (248, (.goto 4, 251, none, [252], .null, [])),
  (251, (.iconst 0, 252, some [0, 1, 2, 3, 4, 5, 6, 8], [], .int 0, [])),
  (252, (.istore 7, 254, some [0, 1, 2, 3, 4, 5, 6, 8], [7], .null, [])),
  (254, (.iinc 8 1, 257, none, [8], .int 1, [])),
  (257, (.goto (-42), 260, none, [215], .null, [])),
  (260, (.iload 7, 262, none, [7], .null, [])),
  (262, (.ifCond .eq 35, 265, none, [297], .null, [])),
  (265, (.aload_n 0, 266, none, [0], .null, [])),
  (266, (.invokevirtual 157, 269, none, [108, 1, 1, 4155, 0], .null, [])),
  (269, (.bipush (-9), 271, none, [], .int (-9), [])),
  (271, (.if_icmp .eq 26, 274, none, [297], .null, [])),
  (274, (.aload_n 0, 275, none, [0], .null, [])),
  (275, (.getfield 38, 278, none, [7, 17, 2, 4000], .null, [])),
  (278, (.iload 6, 280, none, [6], .null, [])),
  (280, (.bipush 64, 282, none, [], .int 64, [])),
  (282, (.idiv, 283, none, [], .null, [])),
  (283, (.dup2, 284, none, [], .null, [])),
  (284, (.laload, 285, none, [], .null, [])),
  (285, (.lconst 1, 286, none, [], .long 1, [])),
  (286, (.iload 6, 288, none, [6], .null, [])),
  (288, (.bipush 64, 290, none, [], .int 64, [])),
  (290, (.irem, 291, none, [], .null, [])),
  (291, (.lshl, 292, none, [], .null, [])),
  (292, (.lor, 293, none, [], .null, [])),
  (293, (.lastore, 294, none, [], .null, [])),
  (294, (.iconst 1, 295, none, [], .int 1, [])),
  (295, (.istore 4, 297, none, [4], .null, [])),
  (297, (.iinc 6 1, 300, some [0, 1, 2, 3, 4, 5, 6], [6], .int 1, [])),
  (300, (.goto (-116), 303, none, [184], .null, [])),
  (303, (.iinc 3 1, 306, none, [3], .int 1, [])),
  (306, (.goto (-174), 309, none, [132], .null, [])),
  (309, (.aload_n 0, 310, some [0, 1, 2, 3], [0], .null, [])),
  (310, (.getfield 38, 313, none, [7, 17, 2, 4000], .null, [])),
  (313, (.iload_n 2, 314, none, [2], .null, [])),
  (314, (.invokestatic 149, 317, none, [106, 2, 1, 4148, 0], .null, [])),
  (317, (.istore 6, 319, none, [6], .null, [])),
  (319, (.aload_n 0, 320, none, [0], .null, [])),
  (320, (.invokevirtual 125, 323, none, [68, 1, 0, 4088, 0], .null, [])),
  (323, (.iload 6, 325, none, [6], .null, [])),
  (325, (.ifCond .ne 8, 328, none, [333], .null, [])),
  (328, (.bipush (-9), 330, none, [], .int (-9), [])),
  (330, (.goto 24, 333, none, [354], .null, [])),
  (333, (.iload_n 1, 334, none, [1], .null, [])),
  (334, (.ifCond .ne 7, 337, none, [341], .null, [])),
  (337, (.iload_n 3, 338, none, [3], .null, [])),
  (338, (.goto 16, 341, none, [354], .null, [])),
  (341, (.iload_n 3, 342, none, [3], .null, [])),
  (342, (.ifCond .ne 8, 345, none, [350], .null, [])),
  (345, (.bipush (-9), 347, none, [], .int (-9), [])),
  (347, (.goto 7, 350, none, [354], .null, [])),
  (350, (.aload_n 0, 351, none, [0], .null, [])),
  (351, (.invokevirtual 157, 354, none, [108, 1, 1, 4155, 0], .null, [])),
  (354, (.ireturn, 355, some [], [0], .null, []))]
def qm_109 : qM := (((⟨"PlushFlocksModel", "back", "(I)I"⟩ : MethodName), prog_9_method_43_code, 9, (Option.some Jvm.ClassFile.FieldType.int)), ("PlushFlocksModel", 7, 1), [4143, 1007, 4141, 4142, 2], qc_109)
/-- 110: PlushFlocks.sendsHome(I)Z -/
def qc_110 : List (Nat × qI) := [(0, (.aload_n 0, 1, none, [0], .null, [])),
  (1, (.getfield 31, 4, none, [6, 4, 2, 1197], .null, [])),
  (4, (.aload_n 0, 5, none, [0], .null, [])),
  (5, (.getfield 27, 8, none, [6, 3, 2, 1196], .null, [])),
  (8, (.invokevirtual 152, 11, none, [51, 2, 0, 2151, 0], .null, [])),
  (11, (.aload_n 0, 12, none, [0], .null, [])),
  (12, (.getfield 31, 15, none, [6, 4, 2, 1197], .null, [])),
  (15, (.iload_n 1, 16, none, [1], .null, [])),
  (16, (.putfield 111, 19, none, [0, 4, 0, 1099], .null, [])),
  (19, (.aload_n 0, 20, none, [0], .null, [])),
  (20, (.getfield 31, 23, none, [6, 4, 2, 1197], .null, [])),
  (23, (.aload_n 0, 24, none, [0], .null, [])),
  (24, (.getfield 20, 27, none, [6, 2, 2, 1195], .null, [])),
  (27, (.invokevirtual 156, 30, none, [58, 2, 1, 2155, 0], .null, [])),
  (30, (.pop, 31, none, [], .null, [])),
  (31, (.aload_n 0, 32, none, [0], .null, [])),
  (32, (.getfield 31, 35, none, [6, 4, 2, 1197], .null, [])),
  (35, (.getfield 104, 38, none, [0, 0, 0, 1090], .null, [])),
  (38, (.aload_n 0, 39, none, [0], .null, [])),
  (39, (.getfield 20, 42, none, [6, 2, 2, 1195], .null, [])),
  (42, (.getfield 121, 45, none, [3, 7, 0, 1053], .null, [])),
  (45, (.if_icmp .ne 7, 48, none, [52], .null, [])),
  (48, (.iconst 1, 49, none, [], .int 1, [])),
  (49, (.goto 4, 52, none, [53], .null, [])),
  (52, (.iconst 0, 53, none, [], .int 0, [])),
  (53, (.ireturn, 54, some [], [4], .null, []))]
def qm_110 : qM := (((⟨"PlushFlocks", "sendsHome", "(I)Z"⟩ : MethodName), prog_1_method_19_code, 2, (Option.some Jvm.ClassFile.FieldType.boolean)), ("PlushFlocks", 6, 1), [3052, 1001, 3051, 18, 2], qc_110)
/-- 111: PlushFlocks.homing()I -/
def qc_111 : List (Nat × qI) := [(0, (.bipush (-9), 2, none, [], .int (-9), [])),
  (2, (.istore_n 1, 3, none, [1], .null, [])),
  (3, (.bipush 6, 5, none, [], .int 6, [])),
  (5, (.istore_n 2, 6, none, [2], .null, [])),
  (6, (.iconst 0, 7, none, [], .int 0, [])),
  (7, (.istore_n 3, 8, none, [3], .null, [])),
  (8, (.iload_n 3, 9, some [0, 1, 2, 3], [3], .null, [])),
  (9, (.iconst 1, 10, none, [], .int 1, [])),
  (10, (.aload_n 0, 11, none, [0], .null, [])),
  (11, (.getfield 20, 14, none, [6, 2, 2, 1195], .null, [])),
  (14, (.getfield 196, 17, none, [3, 0, 0, 1030], .null, [])),
  (17, (.ishl, 18, none, [], .null, [])),
  (18, (.if_icmp .ge 34, 21, none, [52], .null, [])),
  (21, (.iload_n 3, 22, none, [3], .null, [])),
  (22, (.invokestatic 174, 25, none, [88, 1, 1, 2231, 0], .null, [])),
  (25, (.istore 4, 27, none, [4], .null, [])),
  (27, (.iload 4, 29, none, [4], .null, [])),
  (29, (.iload_n 2, 30, none, [2], .null, [])),
  (30, (.if_icmp .ge 16, 33, none, [46], .null, [])),
  (33, (.aload_n 0, 34, none, [0], .null, [])),
  (34, (.iload_n 3, 35, none, [3], .null, [])),
  (35, (.invokevirtual 199, 38, none, [110, 2, 1, 3049, 0], .null, [])),
  (38, (.ifCond .eq 8, 41, none, [46], .null, [])),
  (41, (.iload_n 3, 42, none, [3], .null, [])),
  (42, (.istore_n 1, 43, none, [1], .null, [])),
  (43, (.iload 4, 45, none, [4], .null, [])),
  (45, (.istore_n 2, 46, none, [2], .null, [])),
  (46, (.iinc 3 1, 49, some [0, 1, 2, 3], [3], .int 1, [])),
  (49, (.goto (-41), 52, none, [8], .null, [])),
  (52, (.iload_n 1, 53, none, [1], .null, [])),
  (53, (.ireturn, 54, none, [0], .null, []))]
def qm_111 : qM := (((⟨"PlushFlocks", "homing", "()I"⟩ : MethodName), prog_1_method_16_code, 5, (Option.some Jvm.ClassFile.FieldType.int)), ("PlushFlocks", 6, 1), [3048, 1001, 3046, 3047, 1], qc_111)
/-- 112: PlushFlocksModel.homing()I -/
def qc_112 : List (Nat × qI) := [(0, (.aload_n 0, 1, none, [0], .null, [])),
  (1, (.invokevirtual 118, 4, none, [63, 1, 0, 4070, 0], .null, [])),
  (4, (.bipush (-9), 6, none, [], .int (-9), [])),
  (6, (.istore_n 1, 7, none, [1], .null, [])),
  (7, (.iconst 0, 8, none, [], .int 0, [])),
  (8, (.istore_n 2, 9, none, [2], .null, [])),
  (9, (.iload_n 2, 10, some [0, 1, 2], [2], .null, [])),
  (10, (.iconst 1, 11, none, [], .int 1, [])),
  (11, (.aload_n 0, 12, none, [0], .null, [])),
  (12, (.getfield 13, 15, none, [7, 3, 2, 3226], .null, [])),
  (15, (.iconst 0, 16, none, [], .int 0, [])),
  (16, (.iaload, 17, none, [1], .null, [])),
  (17, (.ishl, 18, none, [], .null, [])),
  (18, (.if_icmp .ge 66, 21, none, [84], .null, [])),
  (21, (.aload_n 0, 22, none, [0], .null, [])),
  (22, (.getfield 19, 25, none, [7, 5, 2, 3228], .null, [])),
  (25, (.bipush 20, 27, none, [], .int 20, [])),
  (27, (.iload_n 2, 28, none, [2], .null, [])),
  (28, (.iastore, 29, none, [], .null, [])),
  (29, (.aload_n 0, 30, none, [0], .null, [])),
  (30, (.invokevirtual 121, 33, none, [67, 1, 1, 4074, 0], .null, [])),
  (33, (.pop, 34, none, [], .null, [])),
  (34, (.aload_n 0, 35, none, [0], .null, [])),
  (35, (.invokevirtual 137, 38, none, [78, 1, 1, 4104, 0], .null, [])),
  (38, (.ifCond .ne 7, 41, none, [45], .null, [])),
  (41, (.iconst 1, 42, none, [], .int 1, [])),
  (42, (.goto 4, 45, none, [46], .null, [])),
  (45, (.iconst 0, 46, none, [], .int 0, [])),
  (46, (.istore_n 3, 47, some [0, 1, 2], [3], .null, [])),
  (47, (.aload_n 0, 48, none, [0], .null, [])),
  (48, (.invokevirtual 125, 51, none, [68, 1, 0, 4088, 0], .null, [])),
  (51, (.iload_n 3, 52, none, [3], .null, [])),
  (52, (.ifCond .eq 24, 55, none, [76], .null, [])),
  (55, (.iload_n 1, 56, none, [1], .null, [])),
  (56, (.bipush (-9), 58, none, [], .int (-9), [])),
  (58, (.if_icmp .eq 14, 61, none, [72], .null, [])),
  (61, (.iload_n 2, 62, none, [2], .null, [])),
  (62, (.invokestatic 111, 65, none, [65, 1, 1, 4085, 0], .null, [])),
  (65, (.iload_n 1, 66, none, [1], .null, [])),
  (66, (.invokestatic 111, 69, none, [65, 1, 1, 4085, 0], .null, [])),
  (69, (.if_icmp .ge 7, 72, none, [76], .null, [])),
  (72, (.iload_n 2, 73, some [0, 2], [2], .null, [])),
  (73, (.goto 4, 76, none, [77], .null, [])),
  (76, (.iload_n 1, 77, some [0, 1, 2], [1], .null, [])),
  (77, (.istore_n 1, 78, some [0, 2], [1], .null, [])),
  (78, (.iinc 2 1, 81, none, [2], .int 1, [])),
  (81, (.goto (-72), 84, none, [9], .null, [])),
  (84, (.iload_n 1, 85, none, [1], .null, [])),
  (85, (.ireturn, 86, none, [0], .null, []))]
def qm_112 : qM := (((⟨"PlushFlocksModel", "homing", "()I"⟩ : MethodName), prog_9_method_44_code, 4, (Option.some Jvm.ClassFile.FieldType.int)), ("PlushFlocksModel", 7, 1), [4162, 1007, 4160, 4161, 1], qc_112)
/-- 113: PlushFlocks$Plan.roomsTaken(II)I -/
def qc_113 : List (Nat × qI) := [(0, (.iconst 0, 1, none, [], .int 0, [])),
  (1, (.istore_n 3, 2, none, [3], .null, [])),
  (2, (.iconst 0, 3, none, [], .int 0, [])),
  (3, (.istore 4, 5, none, [4], .null, [])),
  (5, (.iload 4, 7, some [1, 2, 3, 4], [4], .null, [])),
  (7, (.iload_n 2, 8, none, [2], .null, [])),
  (8, (.if_icmp .ge 20, 11, none, [28], .null, [])),
  (11, (.iload_n 3, 12, none, [3], .null, [])),
  (12, (.iconst 1, 13, none, [], .int 1, [])),
  (13, (.iload_n 1, 14, none, [1], .null, [])),
  (14, (.iload 4, 16, none, [4], .null, [])),
  (16, (.invokestatic 56, 19, none, [49, 2, 1, 9, 1], .null, [])),
  (19, (.ishl, 20, none, [], .null, [])),
  (20, (.ior, 21, none, [], .null, [])),
  (21, (.istore_n 3, 22, none, [3], .null, [])),
  (22, (.iinc 4 1, 25, none, [4], .int 1, [])),
  (25, (.goto (-20), 28, none, [5], .null, [])),
  (28, (.iload_n 3, 29, none, [3], .null, [])),
  (29, (.invokestatic 64, 32, none, [88, 1, 1, 3065, 0], .null, [])),
  (32, (.ireturn, 33, none, [0], .null, []))]
def qm_113 : qM := (((⟨"PlushFlocks$Plan", "roomsTaken", "(II)I"⟩ : MethodName), prog_5_method_11_code, 5, (Option.some Jvm.ClassFile.FieldType.int)), ("PlushFlocks$Plan", 3, 1), [3064, 1002, 3062, 3063, 3], qc_113)
/-- 114: PlushFlocks$Plan.mayJoin(III)Z -/
def qc_114 : List (Nat × qI) := [(0, (.iconst 0, 1, none, [], .int 0, [])),
  (1, (.istore 4, 3, none, [4], .null, [])),
  (3, (.iconst 0, 4, none, [], .int 0, [])),
  (4, (.istore 5, 6, none, [5], .null, [])),
  (6, (.iload 5, 8, some [0, 1, 2, 3, 4, 5], [5], .null, [])),
  (8, (.iload_n 2, 9, none, [2], .null, [])),
  (9, (.if_icmp .ge 44, 12, none, [53], .null, [])),
  (12, (.iload_n 1, 13, none, [1], .null, [])),
  (13, (.iload 5, 15, none, [5], .null, [])),
  (15, (.invokestatic 56, 18, none, [49, 2, 1, 9, 1], .null, [])),
  (18, (.iload_n 3, 19, none, [3], .null, [])),
  (19, (.if_icmp .ne 28, 22, none, [47], .null, [])),
  (22, (.aload_n 0, 23, none, [0], .null, [])),
  (23, (.getfield 41, 26, none, [3, 9, 1, 1058], .null, [])),
  (26, (.iload 5, 28, none, [5], .null, [])),
  (28, (.invokestatic 48, 31, none, [35, 2, 1, 7, 1], .null, [])),
  (31, (.aload_n 0, 32, none, [0], .null, [])),
  (32, (.getfield 41, 35, none, [3, 9, 1, 1058], .null, [])),
  (35, (.iload_n 2, 36, none, [2], .null, [])),
  (36, (.invokestatic 48, 39, none, [35, 2, 1, 7, 1], .null, [])),
  (39, (.if_icmp .eq 5, 42, none, [44], .null, [])),
  (42, (.iconst 0, 43, none, [], .int 0, [])),
  (43, (.ireturn, 44, none, [4], .null, [])),
  (44, (.iinc 4 1, 47, none, [4], .int 1, [])),
  (47, (.iinc 5 1, 50, some [0, 1, 2, 3, 4, 5], [5], .int 1, [])),
  (50, (.goto (-44), 53, none, [6], .null, [])),
  (53, (.iload 4, 55, none, [4], .null, [])),
  (55, (.aload_n 0, 56, none, [0], .null, [])),
  (56, (.getfield 25, 59, none, [3, 4, 1, 1042], .null, [])),
  (59, (.iload_n 3, 60, none, [3], .null, [])),
  (60, (.invokestatic 48, 63, none, [35, 2, 1, 7, 1], .null, [])),
  (63, (.if_icmp .ge 7, 66, none, [70], .null, [])),
  (66, (.iconst 1, 67, none, [], .int 1, [])),
  (67, (.goto 4, 70, none, [71], .null, [])),
  (70, (.iconst 0, 71, none, [], .int 0, [])),
  (71, (.ireturn, 72, some [], [4], .null, []))]
def qm_114 : qM := (((⟨"PlushFlocks$Plan", "mayJoin", "(III)Z"⟩ : MethodName), prog_5_method_12_code, 6, (Option.some Jvm.ClassFile.FieldType.boolean)), ("PlushFlocks$Plan", 3, 1), [3069, 1002, 3067, 3068, 4], qc_114)
/-- 115: PlushFlocks.cheapest(LPlushFlocks$Plan;III)I -/
def qc_115 : List (Nat × qI) := [(0, (.aload_n 0, 1, none, [0], .null, [])),
  (1, (.iload_n 2, 2, none, [2], .null, [])),
  (2, (.iload_n 1, 3, none, [1], .null, [])),
  (3, (.invokevirtual 216, 6, none, [113, 3, 1, 3061, 0], .null, [])),
  (6, (.istore 4, 8, none, [4], .null, [])),
  (8, (.iload 4, 10, none, [4], .null, [])),
  (10, (.iload_n 3, 11, none, [3], .null, [])),
  (11, (.bipush 15, 13, none, [], .int 15, [])),
  (13, (.ishr, 14, none, [], .null, [])),
  (14, (.if_icmp .lt 5, 17, none, [19], .null, [])),
  (17, (.iload_n 3, 18, none, [3], .null, [])),
  (18, (.ireturn, 19, none, [0], .null, [])),
  (19, (.iload_n 1, 20, none, [1], .null, [])),
  (20, (.aload_n 0, 21, none, [0], .null, [])),
  (21, (.getfield 207, 24, none, [3, 1, 0, 1036], .null, [])),
  (24, (.if_icmp .lt 11, 27, none, [35], .null, [])),
  (27, (.iload 4, 29, none, [4], .null, [])),
  (29, (.bipush 15, 31, none, [], .int 15, [])),
  (31, (.ishl, 32, none, [], .null, [])),
  (32, (.iload_n 2, 33, none, [2], .null, [])),
  (33, (.ior, 34, none, [], .null, [])),
  (34, (.ireturn, 35, none, [0], .null, [])),
  (35, (.iload_n 3, 36, none, [3], .null, [])),
  (36, (.istore 5, 38, none, [5], .null, [])),
  (38, (.iconst 0, 39, none, [], .int 0, [])),
  (39, (.istore 6, 41, none, [6], .null, [])),
  (41, (.iload 6, 43, some [0, 1, 2, 5, 6], [6], .null, [])),
  (43, (.aload_n 0, 44, none, [0], .null, [])),
  (44, (.getfield 196, 47, none, [3, 0, 0, 1030], .null, [])),
  (47, (.if_icmp .ge 38, 50, none, [85], .null, [])),
  (50, (.aload_n 0, 51, none, [0], .null, [])),
  (51, (.iload_n 2, 52, none, [2], .null, [])),
  (52, (.iload_n 1, 53, none, [1], .null, [])),
  (53, (.iload 6, 55, none, [6], .null, [])),
  (55, (.invokevirtual 219, 58, none, [114, 4, 1, 3066, 0], .null, [])),
  (58, (.ifCond .eq 21, 61, none, [79], .null, [])),
  (61, (.aload_n 0, 62, none, [0], .null, [])),
  (62, (.iload_n 1, 63, none, [1], .null, [])),
  (63, (.iconst 1, 64, none, [], .int 1, [])),
  (64, (.iadd, 65, none, [], .null, [])),
  (65, (.iload_n 2, 66, none, [2], .null, [])),
  (66, (.iload_n 1, 67, none, [1], .null, [])),
  (67, (.iload 6, 69, none, [6], .null, [])),
  (69, (.invokestatic 170, 72, none, [37, 3, 1, 2226, 0], .null, [])),
  (72, (.iload 5, 74, none, [5], .null, [])),
  (74, (.invokestatic 203, 77, none, [998, 4, 1, 3058, 0], .null, [])),
  (77, (.istore 5, 79, none, [5], .null, [])),
  (79, (.iinc 6 1, 82, some [0, 1, 2, 5, 6], [6], .int 1, [])),
  (82, (.goto (-41), 85, none, [41], .null, [])),
  (85, (.iload 5, 87, none, [5], .null, [])),
  (87, (.ireturn, 88, none, [0], .null, []))]
def qm_115 : qM := (((⟨"PlushFlocks", "cheapest", "(LPlushFlocks$Plan;III)I"⟩ : MethodName), prog_1_method_20_code, 7, (Option.some Jvm.ClassFile.FieldType.int)), ("PlushFlocks", 6, 0), [3060, 1001, 3059, 0, 4], qc_115)
/-- 116: PlushFlocks.cheapest(LPlushFlocks$Plan;III)I -/
def qc_116 : List (Nat × qI) := [(0, (.aload_n 0, 1, none, [0], .null, [])),
  (1, (.iload_n 2, 2, none, [2], .null, [])),
  (2, (.iload_n 1, 3, none, [1], .null, [])),
  (3, (.invokevirtual 216, 6, none, [113, 3, 1, 3061, 0], .null, [])),
  (6, (.istore 4, 8, none, [4], .null, [])),
  (8, (.iload 4, 10, none, [4], .null, [])),
  (10, (.iload_n 3, 11, none, [3], .null, [])),
  (11, (.bipush 15, 13, none, [], .int 15, [])),
  (13, (.ishr, 14, none, [], .null, [])),
  (14, (.if_icmp .lt 5, 17, none, [19], .null, [])),
  (17, (.iload_n 3, 18, none, [3], .null, [])),
  (18, (.ireturn, 19, none, [0], .null, [])),
  (19, (.iload_n 1, 20, none, [1], .null, [])),
  (20, (.aload_n 0, 21, none, [0], .null, [])),
  (21, (.getfield 207, 24, none, [3, 1, 0, 1036], .null, [])),
  (24, (.if_icmp .lt 11, 27, none, [35], .null, [])),
  (27, (.iload 4, 29, none, [4], .null, [])),
  (29, (.bipush 15, 31, none, [], .int 15, [])),
  (31, (.ishl, 32, none, [], .null, [])),
  (32, (.iload_n 2, 33, none, [2], .null, [])),
  (33, (.ior, 34, none, [], .null, [])),
  (34, (.ireturn, 35, none, [0], .null, [])),
  (35, (.iload_n 3, 36, none, [3], .null, [])),
  (36, (.istore 5, 38, none, [5], .null, [])),
  (38, (.iconst 0, 39, none, [], .int 0, [])),
  (39, (.istore 6, 41, none, [6], .null, [])),
  (41, (.iload 6, 43, some [0, 1, 2, 5, 6], [6], .null, [])),
  (43, (.aload_n 0, 44, none, [0], .null, [])),
  (44, (.getfield 196, 47, none, [3, 0, 0, 1030], .null, [])),
  (47, (.if_icmp .ge 38, 50, none, [85], .null, [])),
  (50, (.aload_n 0, 51, none, [0], .null, [])),
  (51, (.iload_n 2, 52, none, [2], .null, [])),
  (52, (.iload_n 1, 53, none, [1], .null, [])),
  (53, (.iload 6, 55, none, [6], .null, [])),
  (55, (.invokevirtual 219, 58, none, [114, 4, 1, 3066, 0], .null, [])),
  (58, (.ifCond .eq 21, 61, none, [79], .null, [])),
  (61, (.aload_n 0, 62, none, [0], .null, [])),
  (62, (.iload_n 1, 63, none, [1], .null, [])),
  (63, (.iconst 1, 64, none, [], .int 1, [])),
  (64, (.iadd, 65, none, [], .null, [])),
  (65, (.iload_n 2, 66, none, [2], .null, [])),
  (66, (.iload_n 1, 67, none, [1], .null, [])),
  (67, (.iload 6, 69, none, [6], .null, [])),
  (69, (.invokestatic 170, 72, none, [37, 3, 1, 2226, 0], .null, [])),
  (72, (.iload 5, 74, none, [5], .null, [])),
  (74, (.invokestatic 203, 77, none, [115, 4, 1, 3058, 0], .null, [])),
  (77, (.istore 5, 79, none, [5], .null, [])),
  (79, (.iinc 6 1, 82, some [0, 1, 2, 5, 6], [6], .int 1, [])),
  (82, (.goto (-41), 85, none, [41], .null, [])),
  (85, (.iload 5, 87, none, [5], .null, [])),
  (87, (.ireturn, 88, none, [0], .null, []))]
def qm_116 : qM := (((⟨"PlushFlocks", "cheapest", "(LPlushFlocks$Plan;III)I"⟩ : MethodName), prog_1_method_20_code, 7, (Option.some Jvm.ClassFile.FieldType.int)), ("PlushFlocks", 6, 0), [3060, 1001, 3059, 0, 4], qc_116)
/-- 117: PlushFlocks.cheapest(LPlushFlocks$Plan;III)I -/
def qc_117 : List (Nat × qI) := [(0, (.aload_n 0, 1, none, [0], .null, [])),
  (1, (.iload_n 2, 2, none, [2], .null, [])),
  (2, (.iload_n 1, 3, none, [1], .null, [])),
  (3, (.invokevirtual 216, 6, none, [113, 3, 1, 3061, 0], .null, [])),
  (6, (.istore 4, 8, none, [4], .null, [])),
  (8, (.iload 4, 10, none, [4], .null, [])),
  (10, (.iload_n 3, 11, none, [3], .null, [])),
  (11, (.bipush 15, 13, none, [], .int 15, [])),
  (13, (.ishr, 14, none, [], .null, [])),
  (14, (.if_icmp .lt 5, 17, none, [19], .null, [])),
  (17, (.iload_n 3, 18, none, [3], .null, [])),
  (18, (.ireturn, 19, none, [0], .null, [])),
  (19, (.iload_n 1, 20, none, [1], .null, [])),
  (20, (.aload_n 0, 21, none, [0], .null, [])),
  (21, (.getfield 207, 24, none, [3, 1, 0, 1036], .null, [])),
  (24, (.if_icmp .lt 11, 27, none, [35], .null, [])),
  (27, (.iload 4, 29, none, [4], .null, [])),
  (29, (.bipush 15, 31, none, [], .int 15, [])),
  (31, (.ishl, 32, none, [], .null, [])),
  (32, (.iload_n 2, 33, none, [2], .null, [])),
  (33, (.ior, 34, none, [], .null, [])),
  (34, (.ireturn, 35, none, [0], .null, [])),
  (35, (.iload_n 3, 36, none, [3], .null, [])),
  (36, (.istore 5, 38, none, [5], .null, [])),
  (38, (.iconst 0, 39, none, [], .int 0, [])),
  (39, (.istore 6, 41, none, [6], .null, [])),
  (41, (.iload 6, 43, some [0, 1, 2, 5, 6], [6], .null, [])),
  (43, (.aload_n 0, 44, none, [0], .null, [])),
  (44, (.getfield 196, 47, none, [3, 0, 0, 1030], .null, [])),
  (47, (.if_icmp .ge 38, 50, none, [85], .null, [])),
  (50, (.aload_n 0, 51, none, [0], .null, [])),
  (51, (.iload_n 2, 52, none, [2], .null, [])),
  (52, (.iload_n 1, 53, none, [1], .null, [])),
  (53, (.iload 6, 55, none, [6], .null, [])),
  (55, (.invokevirtual 219, 58, none, [114, 4, 1, 3066, 0], .null, [])),
  (58, (.ifCond .eq 21, 61, none, [79], .null, [])),
  (61, (.aload_n 0, 62, none, [0], .null, [])),
  (62, (.iload_n 1, 63, none, [1], .null, [])),
  (63, (.iconst 1, 64, none, [], .int 1, [])),
  (64, (.iadd, 65, none, [], .null, [])),
  (65, (.iload_n 2, 66, none, [2], .null, [])),
  (66, (.iload_n 1, 67, none, [1], .null, [])),
  (67, (.iload 6, 69, none, [6], .null, [])),
  (69, (.invokestatic 170, 72, none, [37, 3, 1, 2226, 0], .null, [])),
  (72, (.iload 5, 74, none, [5], .null, [])),
  (74, (.invokestatic 203, 77, none, [116, 4, 1, 3058, 0], .null, [])),
  (77, (.istore 5, 79, none, [5], .null, [])),
  (79, (.iinc 6 1, 82, some [0, 1, 2, 5, 6], [6], .int 1, [])),
  (82, (.goto (-41), 85, none, [41], .null, [])),
  (85, (.iload 5, 87, none, [5], .null, [])),
  (87, (.ireturn, 88, none, [0], .null, []))]
def qm_117 : qM := (((⟨"PlushFlocks", "cheapest", "(LPlushFlocks$Plan;III)I"⟩ : MethodName), prog_1_method_20_code, 7, (Option.some Jvm.ClassFile.FieldType.int)), ("PlushFlocks", 6, 0), [3060, 1001, 3059, 0, 4], qc_117)
/-- 118: PlushFlocks.cheapest(LPlushFlocks$Plan;III)I -/
def qc_118 : List (Nat × qI) := [(0, (.aload_n 0, 1, none, [0], .null, [])),
  (1, (.iload_n 2, 2, none, [2], .null, [])),
  (2, (.iload_n 1, 3, none, [1], .null, [])),
  (3, (.invokevirtual 216, 6, none, [113, 3, 1, 3061, 0], .null, [])),
  (6, (.istore 4, 8, none, [4], .null, [])),
  (8, (.iload 4, 10, none, [4], .null, [])),
  (10, (.iload_n 3, 11, none, [3], .null, [])),
  (11, (.bipush 15, 13, none, [], .int 15, [])),
  (13, (.ishr, 14, none, [], .null, [])),
  (14, (.if_icmp .lt 5, 17, none, [19], .null, [])),
  (17, (.iload_n 3, 18, none, [3], .null, [])),
  (18, (.ireturn, 19, none, [0], .null, [])),
  (19, (.iload_n 1, 20, none, [1], .null, [])),
  (20, (.aload_n 0, 21, none, [0], .null, [])),
  (21, (.getfield 207, 24, none, [3, 1, 0, 1036], .null, [])),
  (24, (.if_icmp .lt 11, 27, none, [35], .null, [])),
  (27, (.iload 4, 29, none, [4], .null, [])),
  (29, (.bipush 15, 31, none, [], .int 15, [])),
  (31, (.ishl, 32, none, [], .null, [])),
  (32, (.iload_n 2, 33, none, [2], .null, [])),
  (33, (.ior, 34, none, [], .null, [])),
  (34, (.ireturn, 35, none, [0], .null, [])),
  (35, (.iload_n 3, 36, none, [3], .null, [])),
  (36, (.istore 5, 38, none, [5], .null, [])),
  (38, (.iconst 0, 39, none, [], .int 0, [])),
  (39, (.istore 6, 41, none, [6], .null, [])),
  (41, (.iload 6, 43, some [0, 1, 2, 5, 6], [6], .null, [])),
  (43, (.aload_n 0, 44, none, [0], .null, [])),
  (44, (.getfield 196, 47, none, [3, 0, 0, 1030], .null, [])),
  (47, (.if_icmp .ge 38, 50, none, [85], .null, [])),
  (50, (.aload_n 0, 51, none, [0], .null, [])),
  (51, (.iload_n 2, 52, none, [2], .null, [])),
  (52, (.iload_n 1, 53, none, [1], .null, [])),
  (53, (.iload 6, 55, none, [6], .null, [])),
  (55, (.invokevirtual 219, 58, none, [114, 4, 1, 3066, 0], .null, [])),
  (58, (.ifCond .eq 21, 61, none, [79], .null, [])),
  (61, (.aload_n 0, 62, none, [0], .null, [])),
  (62, (.iload_n 1, 63, none, [1], .null, [])),
  (63, (.iconst 1, 64, none, [], .int 1, [])),
  (64, (.iadd, 65, none, [], .null, [])),
  (65, (.iload_n 2, 66, none, [2], .null, [])),
  (66, (.iload_n 1, 67, none, [1], .null, [])),
  (67, (.iload 6, 69, none, [6], .null, [])),
  (69, (.invokestatic 170, 72, none, [37, 3, 1, 2226, 0], .null, [])),
  (72, (.iload 5, 74, none, [5], .null, [])),
  (74, (.invokestatic 203, 77, none, [117, 4, 1, 3058, 0], .null, [])),
  (77, (.istore 5, 79, none, [5], .null, [])),
  (79, (.iinc 6 1, 82, some [0, 1, 2, 5, 6], [6], .int 1, [])),
  (82, (.goto (-41), 85, none, [41], .null, [])),
  (85, (.iload 5, 87, none, [5], .null, [])),
  (87, (.ireturn, 88, none, [0], .null, []))]
def qm_118 : qM := (((⟨"PlushFlocks", "cheapest", "(LPlushFlocks$Plan;III)I"⟩ : MethodName), prog_1_method_20_code, 7, (Option.some Jvm.ClassFile.FieldType.int)), ("PlushFlocks", 6, 0), [3060, 1001, 3059, 0, 4], qc_118)
/-- 119: PlushFlocks.cheapest(LPlushFlocks$Plan;III)I -/
def qc_119 : List (Nat × qI) := [(0, (.aload_n 0, 1, none, [0], .null, [])),
  (1, (.iload_n 2, 2, none, [2], .null, [])),
  (2, (.iload_n 1, 3, none, [1], .null, [])),
  (3, (.invokevirtual 216, 6, none, [113, 3, 1, 3061, 0], .null, [])),
  (6, (.istore 4, 8, none, [4], .null, [])),
  (8, (.iload 4, 10, none, [4], .null, [])),
  (10, (.iload_n 3, 11, none, [3], .null, [])),
  (11, (.bipush 15, 13, none, [], .int 15, [])),
  (13, (.ishr, 14, none, [], .null, [])),
  (14, (.if_icmp .lt 5, 17, none, [19], .null, [])),
  (17, (.iload_n 3, 18, none, [3], .null, [])),
  (18, (.ireturn, 19, none, [0], .null, [])),
  (19, (.iload_n 1, 20, none, [1], .null, [])),
  (20, (.aload_n 0, 21, none, [0], .null, [])),
  (21, (.getfield 207, 24, none, [3, 1, 0, 1036], .null, [])),
  (24, (.if_icmp .lt 11, 27, none, [35], .null, [])),
  (27, (.iload 4, 29, none, [4], .null, [])),
  (29, (.bipush 15, 31, none, [], .int 15, [])),
  (31, (.ishl, 32, none, [], .null, [])),
  (32, (.iload_n 2, 33, none, [2], .null, [])),
  (33, (.ior, 34, none, [], .null, [])),
  (34, (.ireturn, 35, none, [0], .null, [])),
  (35, (.iload_n 3, 36, none, [3], .null, [])),
  (36, (.istore 5, 38, none, [5], .null, [])),
  (38, (.iconst 0, 39, none, [], .int 0, [])),
  (39, (.istore 6, 41, none, [6], .null, [])),
  (41, (.iload 6, 43, some [0, 1, 2, 5, 6], [6], .null, [])),
  (43, (.aload_n 0, 44, none, [0], .null, [])),
  (44, (.getfield 196, 47, none, [3, 0, 0, 1030], .null, [])),
  (47, (.if_icmp .ge 38, 50, none, [85], .null, [])),
  (50, (.aload_n 0, 51, none, [0], .null, [])),
  (51, (.iload_n 2, 52, none, [2], .null, [])),
  (52, (.iload_n 1, 53, none, [1], .null, [])),
  (53, (.iload 6, 55, none, [6], .null, [])),
  (55, (.invokevirtual 219, 58, none, [114, 4, 1, 3066, 0], .null, [])),
  (58, (.ifCond .eq 21, 61, none, [79], .null, [])),
  (61, (.aload_n 0, 62, none, [0], .null, [])),
  (62, (.iload_n 1, 63, none, [1], .null, [])),
  (63, (.iconst 1, 64, none, [], .int 1, [])),
  (64, (.iadd, 65, none, [], .null, [])),
  (65, (.iload_n 2, 66, none, [2], .null, [])),
  (66, (.iload_n 1, 67, none, [1], .null, [])),
  (67, (.iload 6, 69, none, [6], .null, [])),
  (69, (.invokestatic 170, 72, none, [37, 3, 1, 2226, 0], .null, [])),
  (72, (.iload 5, 74, none, [5], .null, [])),
  (74, (.invokestatic 203, 77, none, [118, 4, 1, 3058, 0], .null, [])),
  (77, (.istore 5, 79, none, [5], .null, [])),
  (79, (.iinc 6 1, 82, some [0, 1, 2, 5, 6], [6], .int 1, [])),
  (82, (.goto (-41), 85, none, [41], .null, [])),
  (85, (.iload 5, 87, none, [5], .null, [])),
  (87, (.ireturn, 88, none, [0], .null, []))]
def qm_119 : qM := (((⟨"PlushFlocks", "cheapest", "(LPlushFlocks$Plan;III)I"⟩ : MethodName), prog_1_method_20_code, 7, (Option.some Jvm.ClassFile.FieldType.int)), ("PlushFlocks", 6, 0), [3060, 1001, 3059, 0, 4], qc_119)
/-- 120: PlushFlocks.cheapest(LPlushFlocks$Plan;III)I -/
def qc_120 : List (Nat × qI) := [(0, (.aload_n 0, 1, none, [0], .null, [])),
  (1, (.iload_n 2, 2, none, [2], .null, [])),
  (2, (.iload_n 1, 3, none, [1], .null, [])),
  (3, (.invokevirtual 216, 6, none, [113, 3, 1, 3061, 0], .null, [])),
  (6, (.istore 4, 8, none, [4], .null, [])),
  (8, (.iload 4, 10, none, [4], .null, [])),
  (10, (.iload_n 3, 11, none, [3], .null, [])),
  (11, (.bipush 15, 13, none, [], .int 15, [])),
  (13, (.ishr, 14, none, [], .null, [])),
  (14, (.if_icmp .lt 5, 17, none, [19], .null, [])),
  (17, (.iload_n 3, 18, none, [3], .null, [])),
  (18, (.ireturn, 19, none, [0], .null, [])),
  (19, (.iload_n 1, 20, none, [1], .null, [])),
  (20, (.aload_n 0, 21, none, [0], .null, [])),
  (21, (.getfield 207, 24, none, [3, 1, 0, 1036], .null, [])),
  (24, (.if_icmp .lt 11, 27, none, [35], .null, [])),
  (27, (.iload 4, 29, none, [4], .null, [])),
  (29, (.bipush 15, 31, none, [], .int 15, [])),
  (31, (.ishl, 32, none, [], .null, [])),
  (32, (.iload_n 2, 33, none, [2], .null, [])),
  (33, (.ior, 34, none, [], .null, [])),
  (34, (.ireturn, 35, none, [0], .null, [])),
  (35, (.iload_n 3, 36, none, [3], .null, [])),
  (36, (.istore 5, 38, none, [5], .null, [])),
  (38, (.iconst 0, 39, none, [], .int 0, [])),
  (39, (.istore 6, 41, none, [6], .null, [])),
  (41, (.iload 6, 43, some [0, 1, 2, 5, 6], [6], .null, [])),
  (43, (.aload_n 0, 44, none, [0], .null, [])),
  (44, (.getfield 196, 47, none, [3, 0, 0, 1030], .null, [])),
  (47, (.if_icmp .ge 38, 50, none, [85], .null, [])),
  (50, (.aload_n 0, 51, none, [0], .null, [])),
  (51, (.iload_n 2, 52, none, [2], .null, [])),
  (52, (.iload_n 1, 53, none, [1], .null, [])),
  (53, (.iload 6, 55, none, [6], .null, [])),
  (55, (.invokevirtual 219, 58, none, [114, 4, 1, 3066, 0], .null, [])),
  (58, (.ifCond .eq 21, 61, none, [79], .null, [])),
  (61, (.aload_n 0, 62, none, [0], .null, [])),
  (62, (.iload_n 1, 63, none, [1], .null, [])),
  (63, (.iconst 1, 64, none, [], .int 1, [])),
  (64, (.iadd, 65, none, [], .null, [])),
  (65, (.iload_n 2, 66, none, [2], .null, [])),
  (66, (.iload_n 1, 67, none, [1], .null, [])),
  (67, (.iload 6, 69, none, [6], .null, [])),
  (69, (.invokestatic 170, 72, none, [37, 3, 1, 2226, 0], .null, [])),
  (72, (.iload 5, 74, none, [5], .null, [])),
  (74, (.invokestatic 203, 77, none, [119, 4, 1, 3058, 0], .null, [])),
  (77, (.istore 5, 79, none, [5], .null, [])),
  (79, (.iinc 6 1, 82, some [0, 1, 2, 5, 6], [6], .int 1, [])),
  (82, (.goto (-41), 85, none, [41], .null, [])),
  (85, (.iload 5, 87, none, [5], .null, [])),
  (87, (.ireturn, 88, none, [0], .null, []))]
def qm_120 : qM := (((⟨"PlushFlocks", "cheapest", "(LPlushFlocks$Plan;III)I"⟩ : MethodName), prog_1_method_20_code, 7, (Option.some Jvm.ClassFile.FieldType.int)), ("PlushFlocks", 6, 0), [3060, 1001, 3059, 0, 4], qc_120)
/-- 121: PlushFlocks.apart(I)I -/
def qc_121 : List (Nat × qI) := [(0, (.iload_n 1, 1, none, [1], .null, [])),
  (1, (.iconst (-1), 2, none, [], .int (-1), [])),
  (2, (.if_icmp .eq 16, 5, none, [18], .null, [])),
  (5, (.aload_n 0, 6, none, [0], .null, [])),
  (6, (.getfield 20, 9, none, [6, 2, 2, 1195], .null, [])),
  (9, (.iload_n 1, 10, none, [1], .null, [])),
  (10, (.invokevirtual 118, 13, none, [71, 2, 1, 2192, 0], .null, [])),
  (13, (.ifCond .ne 5, 16, none, [18], .null, [])),
  (16, (.iconst (-1), 17, none, [], .int (-1), [])),
  (17, (.ireturn, 18, none, [0], .null, [])),
  (18, (.aload_n 0, 19, some [0, 1], [0], .null, [])),
  (19, (.getfield 20, 22, none, [6, 2, 2, 1195], .null, [])),
  (22, (.iconst 0, 23, none, [], .int 0, [])),
  (23, (.iconst 0, 24, none, [], .int 0, [])),
  (24, (.ldc 202, 26, none, [3057], .int (196608), [])),
  (26, (.invokestatic 203, 29, none, [120, 4, 1, 3058, 0], .null, [])),
  (29, (.istore_n 2, 30, none, [2], .null, [])),
  (30, (.iload_n 2, 31, none, [2], .null, [])),
  (31, (.ldc 202, 33, none, [3057], .int (196608), [])),
  (33, (.if_icmp .ne 6, 36, none, [39], .null, [])),
  (36, (.bipush (-9), 38, none, [], .int (-9), [])),
  (38, (.ireturn, 39, none, [0], .null, [])),
  (39, (.iload_n 1, 40, none, [1], .null, [])),
  (40, (.iconst (-1), 41, none, [], .int (-1), [])),
  (41, (.if_icmp .ne 10, 44, none, [51], .null, [])),
  (44, (.iload_n 2, 45, none, [2], .null, [])),
  (45, (.bipush 15, 47, none, [], .int 15, [])),
  (47, (.ishr, 48, none, [], .null, [])),
  (48, (.goto 8, 51, none, [56], .null, [])),
  (51, (.iload_n 2, 52, none, [2], .null, [])),
  (52, (.iload_n 1, 53, none, [1], .null, [])),
  (53, (.invokestatic 124, 56, none, [49, 2, 1, 2196, 0], .null, [])),
  (56, (.ireturn, 57, some [], [0], .null, []))]
def qm_121 : qM := (((⟨"PlushFlocks", "apart", "(I)I"⟩ : MethodName), prog_1_method_17_code, 3, (Option.some Jvm.ClassFile.FieldType.int)), ("PlushFlocks", 6, 1), [3056, 1001, 3054, 3055, 2], qc_121)
/-- 122: PlushFlocksModel.apart(I)I -/
def qc_122 : List (Nat × qI) := [(0, (.iload_n 1, 1, none, [1], .null, [])),
  (1, (.iconst (-1), 2, none, [], .int (-1), [])),
  (2, (.if_icmp .eq 13, 5, none, [15], .null, [])),
  (5, (.aload_n 0, 6, none, [0], .null, [])),
  (6, (.iload_n 1, 7, none, [1], .null, [])),
  (7, (.invokevirtual 134, 10, none, [73, 2, 1, 4096, 0], .null, [])),
  (10, (.ifCond .ne 5, 13, none, [15], .null, [])),
  (13, (.iconst (-1), 14, none, [], .int (-1), [])),
  (14, (.ireturn, 15, none, [0], .null, [])),
  (15, (.bipush (-9), 17, some [0, 1], [], .int (-9), [])),
  (17, (.istore_n 2, 18, none, [2], .null, [])),
  (18, (.bipush (-9), 20, none, [], .int (-9), [])),
  (20, (.istore_n 3, 21, none, [3], .null, [])),
  (21, (.iconst 1, 22, none, [], .int 1, [])),
  (22, (.istore 4, 24, none, [4], .null, [])),
  (24, (.iconst 0, 25, none, [], .int 0, [])),
  (25, (.istore 5, 27, none, [5], .null, [])),
  (27, (.iload 5, 29, some [0, 1, 2, 3, 4, 5], [5], .null, [])),
  (29, (.aload_n 0, 30, none, [0], .null, [])),
  (30, (.getfield 13, 33, none, [7, 3, 2, 3226], .null, [])),
  (33, (.iconst 1, 34, none, [], .int 1, [])),
  (34, (.iaload, 35, none, [1], .null, [])),
  (35, (.if_icmp .ge 20, 38, none, [55], .null, [])),
  (38, (.iload 4, 40, none, [4], .null, [])),
  (40, (.aload_n 0, 41, none, [0], .null, [])),
  (41, (.getfield 13, 44, none, [7, 3, 2, 3226], .null, [])),
  (44, (.iconst 0, 45, none, [], .int 0, [])),
  (45, (.iaload, 46, none, [1], .null, [])),
  (46, (.imul, 47, none, [], .null, [])),
  (47, (.istore 4, 49, none, [4], .null, [])),
  (49, (.iinc 5 1, 52, none, [5], .int 1, [])),
  (52, (.goto (-25), 55, none, [27], .null, [])),
  (55, (.aload_n 0, 56, none, [0], .null, [])),
  (56, (.invokevirtual 118, 59, none, [63, 1, 0, 4070, 0], .null, [])),
  (59, (.iconst 0, 60, none, [], .int 0, [])),
  (60, (.istore 5, 62, none, [5], .null, [])),
  (62, (.iload 5, 64, some [0, 1, 2, 3, 4, 5], [5], .null, [])),
  (64, (.iload 4, 66, none, [4], .null, [])),
  (66, (.if_icmp .ge 254, 69, none, [320], .null, [])),
  (69, (.iload 5, 71, none, [5], .null, [])),
  (71, (.istore 6, 73, none, [6], .null, [])),
  (73, (.iconst 0, 74, none, [], .int 0, [])),
  (74, (.istore 7, 76, none, [7], .null, [])),
  (76, (.iconst 1, 77, none, [], .int 1, [])),
  (77, (.istore 8, 79, none, [8], .null, [])),
  (79, (.aload_n 0, 80, none, [0], .null, [])),
  (80, (.getfield 13, 83, none, [7, 3, 2, 3226], .null, [])),
  (83, (.iconst 1, 84, none, [], .int 1, [])),
  (84, (.iaload, 85, none, [1], .null, [])),
  (85, (.iconst 1, 86, none, [], .int 1, [])),
  (86, (.isub, 87, none, [], .null, [])),
  (87, (.istore 9, 89, none, [9], .null, [])),
  (89, (.iload 9, 91, some [0, 1, 2, 3, 4, 5, 6, 7, 8, 9], [9], .null, [])),
  (91, (.ifCond .lt 50, 94, none, [141], .null, [])),
  (94, (.aload_n 0, 95, none, [0], .null, [])),
  (95, (.getfield 19, 98, none, [7, 5, 2, 3228], .null, [])),
  (98, (.iload 9, 100, none, [9], .null, [])),
  (100, (.iload 6, 102, none, [6], .null, [])),
  (102, (.aload_n 0, 103, none, [0], .null, [])),
  (103, (.getfield 13, 106, none, [7, 3, 2, 3226], .null, [])),
  (106, (.iconst 0, 107, none, [], .int 0, [])),
  (107, (.iaload, 108, none, [1], .null, [])),
  (108, (.irem, 109, none, [], .null, [])),
  (109, (.iastore, 110, none, [], .null, [])),
  (110, (.iload 6, 112, none, [6], .null, [])),
  (112, (.aload_n 0, 113, none, [0], .null, [])),
  (113, (.getfield 13, 116, none, [7, 3, 2, 3226], .null, [])),
  (116, (.iconst 0, 117, none, [], .int 0, [])),
  (117, (.iaload, 118, none, [1], .null, [])),
  (118, (.idiv, 119, none, [], .null, [])),
  (119, (.istore 6, 121, none, [6], .null, [])),
  (121, (.iload 7, 123, none, [7], .null, [])),
  (123, (.iconst 1, 124, none, [], .int 1, [])),
  (124, (.aload_n 0, 125, none, [0], .null, [])),
  (125, (.getfield 19, 128, none, [7, 5, 2, 3228], .null, [])),
  (128, (.iload 9, 130, none, [9], .null, [])),
  (130, (.iaload, 131, none, [1], .null, [])),
  (131, (.ishl, 132, none, [], .null, [])),
  (132, (.ior, 133, none, [], .null, [])),
  (133, (.istore 7, 135, none, [7], .null, [])),
  (135, (.iinc 9 (-1), 138, none, [9], .int (-1), [])),
  (138, (.goto (-49), 141, none, [89], .null, [])),
  (141, (.iconst 0, 142, none, [], .int 0, [])),
  (142, (.istore 9, 144, none, [9], .null, [])),
  (144, (.iload 9, 146, some [0, 1, 2, 3, 4, 5, 7, 8, 9], [9], .null, [])),
  (146, (.aload_n 0, 147, none, [0], .null, [])),
  (147, (.getfield 13, 150, none, [7, 3, 2, 3226], .null, [])),
  (150, (.iconst 1, 151, none, [], .int 1, [])),
  (151, (.iaload, 152, none, [1], .null, [])),
  (152, (.if_icmp .ge 120, 155, none, [272], .null, [])),
  (155, (.iload 8, 157, none, [8], .null, [])),
  (157, (.ifCond .eq 38, 160, none, [195], .null, [])),
  (160, (.aload_n 0, 161, none, [0], .null, [])),
  (161, (.aload_n 0, 162, none, [0], .null, [])),
  (162, (.getfield 19, 165, none, [7, 5, 2, 3228], .null, [])),
  (165, (.iload 9, 167, none, [9], .null, [])),
  (167, (.iaload, 168, none, [1], .null, [])),
  (168, (.invokevirtual 108, 171, none, [62, 2, 1, 4062, 0], .null, [])),
  (171, (.invokestatic 111, 174, none, [65, 1, 1, 4085, 0], .null, [])),
  (174, (.aload_n 0, 175, none, [0], .null, [])),
  (175, (.getfield 13, 178, none, [7, 3, 2, 3226], .null, [])),
  (178, (.iconst 5, 179, none, [], .int 5, [])),
  (179, (.aload_n 0, 180, none, [0], .null, [])),
  (180, (.getfield 19, 183, none, [7, 5, 2, 3228], .null, [])),
  (183, (.iload 9, 185, none, [9], .null, [])),
  (185, (.iaload, 186, none, [1], .null, [])),
  (186, (.iadd, 187, none, [], .null, [])),
  (187, (.iaload, 188, none, [1], .null, [])),
  (188, (.if_icmp .gt 7, 191, none, [195], .null, [])),
  (191, (.iconst 1, 192, none, [], .int 1, [])),
  (192, (.goto 4, 195, none, [196], .null, [])),
  (195, (.iconst 0, 196, some [0, 1, 2, 3, 4, 5, 7, 9], [], .int 0, [])),
  (196, (.istore 8, 198, some [0, 1, 2, 3, 4, 5, 7, 9], [8], .null, [])),
  (198, (.iconst 0, 199, none, [], .int 0, [])),
  (199, (.istore 10, 201, none, [10], .null, [])),
  (201, (.iload 10, 203, some [0, 1, 2, 3, 4, 5, 7, 8, 9, 10], [10], .null, [])),
  (203, (.iload 9, 205, none, [9], .null, [])),
  (205, (.if_icmp .ge 61, 208, none, [266], .null, [])),
  (208, (.iload 8, 210, none, [8], .null, [])),
  (210, (.ifCond .eq 47, 213, none, [257], .null, [])),
  (213, (.aload_n 0, 214, none, [0], .null, [])),
  (214, (.getfield 19, 217, none, [7, 5, 2, 3228], .null, [])),
  (217, (.iload 10, 219, none, [10], .null, [])),
  (219, (.iaload, 220, none, [1], .null, [])),
  (220, (.aload_n 0, 221, none, [0], .null, [])),
  (221, (.getfield 19, 224, none, [7, 5, 2, 3228], .null, [])),
  (224, (.iload 9, 226, none, [9], .null, [])),
  (226, (.iaload, 227, none, [1], .null, [])),
  (227, (.if_icmp .ne 26, 230, none, [253], .null, [])),
  (230, (.aload_n 0, 231, none, [0], .null, [])),
  (231, (.getfield 13, 234, none, [7, 3, 2, 3226], .null, [])),
  (234, (.bipush 30, 236, none, [], .int 30, [])),
  (236, (.iload 10, 238, none, [10], .null, [])),
  (238, (.iadd, 239, none, [], .null, [])),
  (239, (.iaload, 240, none, [1], .null, [])),
  (240, (.aload_n 0, 241, none, [0], .null, [])),
  (241, (.getfield 13, 244, none, [7, 3, 2, 3226], .null, [])),
  (244, (.bipush 30, 246, none, [], .int 30, [])),
  (246, (.iload 9, 248, none, [9], .null, [])),
  (248, (.iadd, 249, none, [], .null, [])),
  (249, (.iaload, 250, none, [1], .null, [])),
  (250, (.if_icmp .ne 7, 253, none, [257], .null, [])),
  (253, (.iconst 1, 254, some [0, 1, 2, 3, 4, 5, 7, 9, 10], [], .int 1, [])),
  (254, (.goto 4, 257, none, [258], .null, [])),
  (257, (.iconst 0, 258, some [0, 1, 2, 3, 4, 5, 7, 9, 10], [], .int 0, [])),
  (258, (.istore 8, 260, some [0, 1, 2, 3, 4, 5, 7, 9, 10], [8], .null, [])),
  (260, (.iinc 10 1, 263, none, [10], .int 1, [])),
  (263, (.goto (-62), 266, none, [201], .null, [])),
  (266, (.iinc 9 1, 269, none, [9], .int 1, [])),
  (269, (.goto (-125), 272, none, [144], .null, [])),
  (272, (.iload 8, 274, none, [8], .null, [])),
  (274, (.ifCond .eq 40, 277, none, [314], .null, [])),
  (277, (.iload_n 2, 278, none, [2], .null, [])),
  (278, (.bipush (-9), 280, none, [], .int (-9), [])),
  (280, (.if_icmp .eq 12, 283, none, [292], .null, [])),
  (283, (.iload 7, 285, none, [7], .null, [])),
  (285, (.invokestatic 111, 288, none, [65, 1, 1, 4085, 0], .null, [])),
  (288, (.iload_n 2, 289, none, [2], .null, [])),
  (289, (.if_icmp .ge 25, 292, none, [314], .null, [])),
  (292, (.iload 7, 294, some [0, 1, 4, 5, 7], [7], .null, [])),
  (294, (.invokestatic 111, 297, none, [65, 1, 1, 4085, 0], .null, [])),
  (297, (.istore_n 2, 298, none, [2], .null, [])),
  (298, (.iload_n 1, 299, none, [1], .null, [])),
  (299, (.ifCond .ge 8, 302, none, [307], .null, [])),
  (302, (.bipush (-9), 304, none, [], .int (-9), [])),
  (304, (.goto 9, 307, none, [313], .null, [])),
  (307, (.aload_n 0, 308, none, [0], .null, [])),
  (308, (.getfield 19, 311, none, [7, 5, 2, 3228], .null, [])),
  (311, (.iload_n 1, 312, none, [1], .null, [])),
  (312, (.iaload, 313, none, [1], .null, [])),
  (313, (.istore_n 3, 314, some [0, 1, 2, 4, 5], [3], .null, [])),
  (314, (.iinc 5 1, 317, some [0, 1, 2, 3, 4, 5], [5], .int 1, [])),
  (317, (.goto (-255), 320, none, [62], .null, [])),
  (320, (.aload_n 0, 321, none, [0], .null, [])),
  (321, (.invokevirtual 125, 324, none, [68, 1, 0, 4088, 0], .null, [])),
  (324, (.iload_n 1, 325, none, [1], .null, [])),
  (325, (.iconst (-1), 326, none, [], .int (-1), [])),
  (326, (.if_icmp .ne 7, 329, none, [333], .null, [])),
  (329, (.iload_n 2, 330, none, [2], .null, [])),
  (330, (.goto 4, 333, none, [334], .null, [])),
  (333, (.iload_n 3, 334, none, [3], .null, [])),
  (334, (.ireturn, 335, some [], [0], .null, []))]
def qm_122 : qM := (((⟨"PlushFlocksModel", "apart", "(I)I"⟩ : MethodName), prog_9_method_45_code, 11, (Option.some Jvm.ClassFile.FieldType.int)), ("PlushFlocksModel", 7, 1), [4166, 1007, 4164, 4165, 2], qc_122)
/-- 123: PlushFlocks.power(II)I -/
def qc_123 : List (Nat × qI) := [(0, (.iconst 1, 1, none, [], .int 1, [])),
  (1, (.istore_n 2, 2, none, [2], .null, [])),
  (2, (.iconst 0, 3, none, [], .int 0, [])),
  (3, (.istore_n 3, 4, none, [3], .null, [])),
  (4, (.iload_n 3, 5, some [0, 1, 2, 3], [3], .null, [])),
  (5, (.iload_n 1, 6, none, [1], .null, [])),
  (6, (.if_icmp .ge 13, 9, none, [19], .null, [])),
  (9, (.iload_n 2, 10, none, [2], .null, [])),
  (10, (.iload_n 0, 11, none, [0], .null, [])),
  (11, (.imul, 12, none, [], .null, [])),
  (12, (.istore_n 2, 13, none, [2], .null, [])),
  (13, (.iinc 3 1, 16, none, [3], .int 1, [])),
  (16, (.goto (-12), 19, none, [4], .null, [])),
  (19, (.iload_n 2, 20, none, [2], .null, [])),
  (20, (.ireturn, 21, none, [0], .null, []))]
def qm_123 : qM := (((⟨"PlushFlocks", "power", "(II)I"⟩ : MethodName), prog_1_method_44_code, 4, (Option.some Jvm.ClassFile.FieldType.int)), ("PlushFlocks", 6, 0), [3076, 1001, 3075, 0, 2], qc_123)
/-- 124: PlushFlocks.commonDivisor(II)I -/
def qc_124 : List (Nat × qI) := [(0, (.iload_n 0, 1, none, [0], .null, [])),
  (1, (.istore_n 2, 2, none, [2], .null, [])),
  (2, (.iload_n 1, 3, none, [1], .null, [])),
  (3, (.istore_n 3, 4, none, [3], .null, [])),
  (4, (.iconst 0, 5, none, [], .int 0, [])),
  (5, (.istore 4, 7, none, [4], .null, [])),
  (7, (.iload 4, 9, some [2, 3, 4], [4], .null, [])),
  (9, (.bipush 100, 11, none, [], .int 100, [])),
  (11, (.if_icmp .ge 23, 14, none, [34], .null, [])),
  (14, (.iload_n 3, 15, none, [3], .null, [])),
  (15, (.ifCond .eq 19, 18, none, [34], .null, [])),
  (18, (.iload_n 2, 19, none, [2], .null, [])),
  (19, (.iload_n 3, 20, none, [3], .null, [])),
  (20, (.irem, 21, none, [], .null, [])),
  (21, (.istore 5, 23, none, [5], .null, [])),
  (23, (.iload_n 3, 24, none, [3], .null, [])),
  (24, (.istore_n 2, 25, none, [2], .null, [])),
  (25, (.iload 5, 27, none, [5], .null, [])),
  (27, (.istore_n 3, 28, none, [3], .null, [])),
  (28, (.iinc 4 1, 31, none, [4], .int 1, [])),
  (31, (.goto (-24), 34, none, [7], .null, [])),
  (34, (.iload_n 2, 35, some [2], [2], .null, [])),
  (35, (.ireturn, 36, none, [0], .null, []))]
def qm_124 : qM := (((⟨"PlushFlocks", "commonDivisor", "(II)I"⟩ : MethodName), prog_1_method_45_code, 6, (Option.some Jvm.ClassFile.FieldType.int)), ("PlushFlocks", 6, 0), [3079, 1001, 3078, 0, 2], qc_124)
/-- 125: PlushFlocks.odds(III)I -/
def qc_125 : List (Nat × qI) := [(0, (.iload_n 1, 1, none, [1], .null, [])),
  (1, (.ifCond .lt 27, 4, none, [28], .null, [])),
  (4, (.iload_n 1, 5, none, [1], .null, [])),
  (5, (.bipush 10, 7, none, [], .int 10, [])),
  (7, (.if_icmp .gt 21, 10, none, [28], .null, [])),
  (10, (.iload_n 2, 11, none, [2], .null, [])),
  (11, (.ifCond .lt 17, 14, none, [28], .null, [])),
  (14, (.iload_n 2, 15, none, [2], .null, [])),
  (15, (.iconst 5, 16, none, [], .int 5, [])),
  (16, (.if_icmp .gt 12, 19, none, [28], .null, [])),
  (19, (.iload_n 3, 20, none, [3], .null, [])),
  (20, (.ifCond .lt 8, 23, none, [28], .null, [])),
  (23, (.iload_n 3, 24, none, [3], .null, [])),
  (24, (.iconst 1, 25, none, [], .int 1, [])),
  (25, (.if_icmp .le 5, 28, none, [30], .null, [])),
  (28, (.iconst (-1), 29, some [], [], .int (-1), [])),
  (29, (.ireturn, 30, none, [0], .null, [])),
  (30, (.bipush 10, 32, none, [], .int 10, [])),
  (32, (.aload_n 0, 33, none, [0], .null, [])),
  (33, (.getfield 20, 36, none, [6, 2, 2, 1195], .null, [])),
  (36, (.getfield 207, 39, none, [3, 1, 0, 1036], .null, [])),
  (39, (.invokestatic 210, 42, none, [123, 2, 1, 3074, 0], .null, [])),
  (42, (.istore 4, 44, none, [4], .null, [])),
  (44, (.iconst 0, 45, none, [], .int 0, [])),
  (45, (.istore 5, 47, none, [5], .null, [])),
  (47, (.iconst 0, 48, none, [], .int 0, [])),
  (48, (.istore 6, 50, none, [6], .null, [])),
  (50, (.iload 6, 52, some [0, 1, 2, 3, 4, 5, 6], [6], .null, [])),
  (52, (.iconst 1, 53, none, [], .int 1, [])),
  (53, (.aload_n 0, 54, none, [0], .null, [])),
  (54, (.getfield 20, 57, none, [6, 2, 2, 1195], .null, [])),
  (57, (.getfield 207, 60, none, [3, 1, 0, 1036], .null, [])),
  (60, (.ishl, 61, none, [], .null, [])),
  (61, (.if_icmp .ge 51, 64, none, [112], .null, [])),
  (64, (.iload 6, 66, none, [6], .null, [])),
  (66, (.invokestatic 174, 69, none, [88, 1, 1, 2231, 0], .null, [])),
  (69, (.istore 7, 71, none, [7], .null, [])),
  (71, (.iload 7, 73, none, [7], .null, [])),
  (73, (.iload_n 2, 74, none, [2], .null, [])),
  (74, (.if_icmp .gt 32, 77, none, [106], .null, [])),
  (77, (.iload 5, 79, none, [5], .null, [])),
  (79, (.iload_n 1, 80, none, [1], .null, [])),
  (80, (.iload 7, 82, none, [7], .null, [])),
  (82, (.invokestatic 210, 85, none, [123, 2, 1, 3074, 0], .null, [])),
  (85, (.bipush 10, 87, none, [], .int 10, [])),
  (87, (.iload_n 1, 88, none, [1], .null, [])),
  (88, (.isub, 89, none, [], .null, [])),
  (89, (.aload_n 0, 90, none, [0], .null, [])),
  (90, (.getfield 20, 93, none, [6, 2, 2, 1195], .null, [])),
  (93, (.getfield 207, 96, none, [3, 1, 0, 1036], .null, [])),
  (96, (.iload 7, 98, none, [7], .null, [])),
  (98, (.isub, 99, none, [], .null, [])),
  (99, (.invokestatic 210, 102, none, [123, 2, 1, 3074, 0], .null, [])),
  (102, (.imul, 103, none, [], .null, [])),
  (103, (.iadd, 104, none, [], .null, [])),
  (104, (.istore 5, 106, none, [5], .null, [])),
  (106, (.iinc 6 1, 109, some [0, 1, 2, 3, 4, 5, 6], [6], .int 1, [])),
  (109, (.goto (-59), 112, none, [50], .null, [])),
  (112, (.iload 5, 114, none, [5], .null, [])),
  (114, (.iload 4, 116, none, [4], .null, [])),
  (116, (.invokestatic 213, 119, none, [124, 2, 1, 3077, 0], .null, [])),
  (119, (.istore 6, 121, none, [6], .null, [])),
  (121, (.iload 6, 123, none, [6], .null, [])),
  (123, (.ifCond .gt 5, 126, none, [128], .null, [])),
  (126, (.iconst (-1), 127, none, [], .int (-1), [])),
  (127, (.ireturn, 128, none, [0], .null, [])),
  (128, (.iload_n 3, 129, none, [3], .null, [])),
  (129, (.ifCond .ne 8, 132, none, [137], .null, [])),
  (132, (.iload 5, 134, none, [5], .null, [])),
  (134, (.goto 5, 137, none, [139], .null, [])),
  (137, (.iload 4, 139, none, [4], .null, [])),
  (139, (.iload 6, 141, some [6], [6], .null, [])),
  (141, (.idiv, 142, none, [], .null, [])),
  (142, (.ireturn, 143, none, [0], .null, []))]
def qm_125 : qM := (((⟨"PlushFlocks", "odds", "(III)I"⟩ : MethodName), prog_1_method_18_code, 8, (Option.some Jvm.ClassFile.FieldType.int)), ("PlushFlocks", 6, 1), [3073, 1001, 3071, 3072, 4], qc_125)
/-- 126: PlushFlocksModel.odds(III)I -/
def qc_126 : List (Nat × qI) := [(0, (.iload_n 1, 1, none, [1], .null, [])),
  (1, (.iconst 0, 2, none, [], .int 0, [])),
  (2, (.bipush 10, 4, none, [], .int 10, [])),
  (4, (.invokestatic 52, 7, none, [8, 3, 1, 3200, 0], .null, [])),
  (7, (.ifCond .eq 21, 10, none, [28], .null, [])),
  (10, (.iload_n 2, 11, none, [2], .null, [])),
  (11, (.iconst 0, 12, none, [], .int 0, [])),
  (12, (.iconst 5, 13, none, [], .int 5, [])),
  (13, (.invokestatic 52, 16, none, [8, 3, 1, 3200, 0], .null, [])),
  (16, (.ifCond .eq 12, 19, none, [28], .null, [])),
  (19, (.iload_n 3, 20, none, [3], .null, [])),
  (20, (.iconst 0, 21, none, [], .int 0, [])),
  (21, (.iconst 1, 22, none, [], .int 1, [])),
  (22, (.invokestatic 52, 25, none, [8, 3, 1, 3200, 0], .null, [])),
  (25, (.ifCond .ne 5, 28, none, [30], .null, [])),
  (28, (.iconst (-1), 29, some [], [], .int (-1), [])),
  (29, (.ireturn, 30, none, [0], .null, [])),
  (30, (.iconst 0, 31, none, [], .int 0, [])),
  (31, (.istore 4, 33, none, [4], .null, [])),
  (33, (.iconst 1, 34, none, [], .int 1, [])),
  (34, (.istore 5, 36, none, [5], .null, [])),
  (36, (.iconst 0, 37, none, [], .int 0, [])),
  (37, (.istore 6, 39, none, [6], .null, [])),
  (39, (.iload 6, 41, some [0, 1, 2, 3, 4, 5, 6], [6], .null, [])),
  (41, (.aload_n 0, 42, none, [0], .null, [])),
  (42, (.getfield 13, 45, none, [7, 3, 2, 3226], .null, [])),
  (45, (.iconst 1, 46, none, [], .int 1, [])),
  (46, (.iaload, 47, none, [1], .null, [])),
  (47, (.if_icmp .ge 16, 50, none, [63], .null, [])),
  (50, (.iload 5, 52, none, [5], .null, [])),
  (52, (.bipush 10, 54, none, [], .int 10, [])),
  (54, (.imul, 55, none, [], .null, [])),
  (55, (.istore 5, 57, none, [5], .null, [])),
  (57, (.iinc 6 1, 60, none, [6], .int 1, [])),
  (60, (.goto (-21), 63, none, [39], .null, [])),
  (63, (.iconst 0, 64, none, [], .int 0, [])),
  (64, (.istore 6, 66, none, [6], .null, [])),
  (66, (.iload 6, 68, some [0, 1, 2, 3, 4, 5, 6], [6], .null, [])),
  (68, (.iconst 1, 69, none, [], .int 1, [])),
  (69, (.aload_n 0, 70, none, [0], .null, [])),
  (70, (.getfield 13, 73, none, [7, 3, 2, 3226], .null, [])),
  (73, (.iconst 1, 74, none, [], .int 1, [])),
  (74, (.iaload, 75, none, [1], .null, [])),
  (75, (.ishl, 76, none, [], .null, [])),
  (76, (.if_icmp .ge 75, 79, none, [151], .null, [])),
  (79, (.iconst 1, 80, none, [], .int 1, [])),
  (80, (.istore 7, 82, none, [7], .null, [])),
  (82, (.iconst 0, 83, none, [], .int 0, [])),
  (83, (.istore 8, 85, none, [8], .null, [])),
  (85, (.iload 8, 87, some [0, 1, 2, 3, 4, 5, 6, 7, 8], [8], .null, [])),
  (87, (.aload_n 0, 88, none, [0], .null, [])),
  (88, (.getfield 13, 91, none, [7, 3, 2, 3226], .null, [])),
  (91, (.iconst 1, 92, none, [], .int 1, [])),
  (92, (.iaload, 93, none, [1], .null, [])),
  (93, (.if_icmp .ge 32, 96, none, [125], .null, [])),
  (96, (.iload 7, 98, none, [7], .null, [])),
  (98, (.iload 6, 100, none, [6], .null, [])),
  (100, (.iload 8, 102, none, [8], .null, [])),
  (102, (.invokestatic 105, 105, none, [64, 2, 1, 4078, 0], .null, [])),
  (105, (.ifCond .eq 7, 108, none, [112], .null, [])),
  (108, (.iload_n 1, 109, none, [1], .null, [])),
  (109, (.goto 7, 112, none, [116], .null, [])),
  (112, (.bipush 10, 114, none, [], .int 10, [])),
  (114, (.iload_n 1, 115, none, [1], .null, [])),
  (115, (.isub, 116, none, [], .null, [])),
  (116, (.imul, 117, some [0, 1, 2, 3, 4, 5, 6, 8], [], .null, [])),
  (117, (.istore 7, 119, none, [7], .null, [])),
  (119, (.iinc 8 1, 122, none, [8], .int 1, [])),
  (122, (.goto (-37), 125, none, [85], .null, [])),
  (125, (.iload 4, 127, none, [4], .null, [])),
  (127, (.iload 6, 129, none, [6], .null, [])),
  (129, (.invokestatic 111, 132, none, [65, 1, 1, 4085, 0], .null, [])),
  (132, (.iload_n 2, 133, none, [2], .null, [])),
  (133, (.if_icmp .gt 8, 136, none, [141], .null, [])),
  (136, (.iload 7, 138, none, [7], .null, [])),
  (138, (.goto 4, 141, none, [142], .null, [])),
  (141, (.iconst 0, 142, none, [], .int 0, [])),
  (142, (.iadd, 143, some [0, 1, 2, 3, 5, 6], [], .null, [])),
  (143, (.istore 4, 145, none, [4], .null, [])),
  (145, (.iinc 6 1, 148, none, [6], .int 1, [])),
  (148, (.goto (-82), 151, none, [66], .null, [])),
  (151, (.iload 4, 153, none, [4], .null, [])),
  (153, (.istore 6, 155, none, [6], .null, [])),
  (155, (.iload 5, 157, none, [5], .null, [])),
  (157, (.istore 7, 159, none, [7], .null, [])),
  (159, (.iload 7, 161, some [3, 4, 5, 6, 7], [7], .null, [])),
  (161, (.ifCond .le 21, 164, none, [182], .null, [])),
  (164, (.iload 6, 166, none, [6], .null, [])),
  (166, (.iload 7, 168, none, [7], .null, [])),
  (168, (.irem, 169, none, [], .null, [])),
  (169, (.istore 8, 171, none, [8], .null, [])),
  (171, (.iload 7, 173, none, [7], .null, [])),
  (173, (.istore 6, 175, none, [6], .null, [])),
  (175, (.iload 8, 177, none, [8], .null, [])),
  (177, (.istore 7, 179, none, [7], .null, [])),
  (179, (.goto (-20), 182, none, [159], .null, [])),
  (182, (.iload_n 3, 183, none, [3], .null, [])),
  (183, (.ifCond .ne 11, 186, none, [194], .null, [])),
  (186, (.iload 4, 188, none, [4], .null, [])),
  (188, (.iload 6, 190, none, [6], .null, [])),
  (190, (.idiv, 191, none, [], .null, [])),
  (191, (.goto 8, 194, none, [199], .null, [])),
  (194, (.iload 5, 196, none, [5], .null, [])),
  (196, (.iload 6, 198, none, [6], .null, [])),
  (198, (.idiv, 199, none, [], .null, [])),
  (199, (.ireturn, 200, some [], [0], .null, []))]
def qm_126 : qM := (((⟨"PlushFlocksModel", "odds", "(III)I"⟩ : MethodName), prog_9_method_46_code, 9, (Option.some Jvm.ClassFile.FieldType.int)), ("PlushFlocksModel", 7, 1), [4170, 1007, 4168, 4169, 4], qc_126)
/-- 127: PlushFlocks$Grazing.hear(II)Z -/
def qc_127 : List (Nat × qI) := [(0, (.aload_n 0, 1, none, [0], .null, [])),
  (1, (.getfield 21, 4, none, [1, 3, 0, 1144], .null, [])),
  (4, (.bipush 6, 6, none, [], .int 6, [])),
  (6, (.if_icmp .lt 5, 9, none, [11], .null, [])),
  (9, (.iconst 0, 10, none, [], .int 0, [])),
  (10, (.ireturn, 11, none, [4], .null, [])),
  (11, (.aload_n 0, 12, none, [0], .null, [])),
  (12, (.aload_n 0, 13, none, [0], .null, [])),
  (13, (.getfield 9, 16, none, [1, 0, 1, 1141], .null, [])),
  (16, (.aload_n 0, 17, none, [0], .null, [])),
  (17, (.getfield 21, 20, none, [1, 3, 0, 1144], .null, [])),
  (20, (.iload_n 1, 21, none, [1], .null, [])),
  (21, (.invokestatic 34, 24, none, [33, 3, 2, 22, 1], .null, [])),
  (24, (.putfield 9, 27, none, [1, 0, 1, 1141], .null, [])),
  (27, (.aload_n 0, 28, none, [0], .null, [])),
  (28, (.aload_n 0, 29, none, [0], .null, [])),
  (29, (.getfield 15, 32, none, [1, 1, 1, 1142], .null, [])),
  (32, (.aload_n 0, 33, none, [0], .null, [])),
  (33, (.getfield 21, 36, none, [1, 3, 0, 1144], .null, [])),
  (36, (.iload_n 2, 37, none, [2], .null, [])),
  (37, (.invokestatic 34, 40, none, [33, 3, 2, 22, 1], .null, [])),
  (40, (.putfield 15, 43, none, [1, 1, 1, 1142], .null, [])),
  (43, (.aload_n 0, 44, none, [0], .null, [])),
  (44, (.dup, 45, none, [], .null, [])),
  (45, (.getfield 21, 48, none, [1, 3, 0, 1144], .null, [])),
  (48, (.iconst 1, 49, none, [], .int 1, [])),
  (49, (.iadd, 50, none, [], .null, [])),
  (50, (.putfield 21, 53, none, [1, 3, 0, 1144], .null, [])),
  (53, (.iconst 1, 54, none, [], .int 1, [])),
  (54, (.ireturn, 55, none, [4], .null, []))]
def qm_127 : qM := (((⟨"PlushFlocks$Grazing", "hear", "(II)Z"⟩ : MethodName), prog_3_method_2_code, 3, (Option.some Jvm.ClassFile.FieldType.boolean)), ("PlushFlocks$Grazing", 1, 1), [3087, 1005, 3085, 3086, 3], qc_127)
/-- 128: PlushFlocks.tells(II)I -/
def qc_128 : List (Nat × qI) := [(0, (.iload_n 1, 1, none, [1], .null, [])),
  (1, (.iconst 1, 2, none, [], .int 1, [])),
  (2, (.if_icmp .lt 26, 5, none, [28], .null, [])),
  (5, (.iload_n 1, 6, none, [1], .null, [])),
  (6, (.iconst 1, 7, none, [], .int 1, [])),
  (7, (.aload_n 0, 8, none, [0], .null, [])),
  (8, (.getfield 20, 11, none, [6, 2, 2, 1195], .null, [])),
  (11, (.getfield 207, 14, none, [3, 1, 0, 1036], .null, [])),
  (14, (.ishl, 15, none, [], .null, [])),
  (15, (.if_icmp .ge 13, 18, none, [28], .null, [])),
  (18, (.iload_n 2, 19, none, [2], .null, [])),
  (19, (.ifCond .lt 9, 22, none, [28], .null, [])),
  (22, (.iload_n 2, 23, none, [2], .null, [])),
  (23, (.bipush 45, 25, none, [], .int 45, [])),
  (25, (.if_icmp .le 5, 28, none, [30], .null, [])),
  (28, (.iconst (-1), 29, some [], [], .int (-1), [])),
  (29, (.ireturn, 30, none, [0], .null, [])),
  (30, (.aload_n 0, 31, none, [0], .null, [])),
  (31, (.getfield 51, 34, none, [6, 8, 2, 1201], .null, [])),
  (34, (.iload_n 1, 35, none, [1], .null, [])),
  (35, (.iload_n 2, 36, none, [2], .null, [])),
  (36, (.invokevirtual 223, 39, none, [127, 3, 1, 3084, 0], .null, [])),
  (39, (.ifCond .eq 13, 42, none, [52], .null, [])),
  (42, (.aload_n 0, 43, none, [0], .null, [])),
  (43, (.getfield 51, 46, none, [6, 8, 2, 1201], .null, [])),
  (46, (.getfield 226, 49, none, [1, 3, 0, 1145], .null, [])),
  (49, (.goto 5, 52, none, [54], .null, [])),
  (52, (.bipush (-3), 54, none, [], .int (-3), [])),
  (54, (.ireturn, 55, some [], [0], .null, []))]
def qm_128 : qM := (((⟨"PlushFlocks", "tells", "(II)I"⟩ : MethodName), prog_1_method_21_code, 3, (Option.some Jvm.ClassFile.FieldType.int)), ("PlushFlocks", 6, 1), [3083, 1001, 3081, 3082, 3], qc_128)
/-- 129: PlushFlocksModel.tells(II)I -/
def qc_129 : List (Nat × qI) := [(0, (.iload_n 1, 1, none, [1], .null, [])),
  (1, (.iconst 1, 2, none, [], .int 1, [])),
  (2, (.iconst 1, 3, none, [], .int 1, [])),
  (3, (.aload_n 0, 4, none, [0], .null, [])),
  (4, (.getfield 13, 7, none, [7, 3, 2, 3226], .null, [])),
  (7, (.iconst 1, 8, none, [], .int 1, [])),
  (8, (.iaload, 9, none, [1], .null, [])),
  (9, (.ishl, 10, none, [], .null, [])),
  (10, (.iconst 1, 11, none, [], .int 1, [])),
  (11, (.isub, 12, none, [], .null, [])),
  (12, (.invokestatic 52, 15, none, [8, 3, 1, 3200, 0], .null, [])),
  (15, (.ifCond .eq 13, 18, none, [28], .null, [])),
  (18, (.iload_n 2, 19, none, [2], .null, [])),
  (19, (.iconst 0, 20, none, [], .int 0, [])),
  (20, (.bipush 45, 22, none, [], .int 45, [])),
  (22, (.invokestatic 52, 25, none, [8, 3, 1, 3200, 0], .null, [])),
  (25, (.ifCond .ne 5, 28, none, [30], .null, [])),
  (28, (.iconst (-1), 29, some [], [], .int (-1), [])),
  (29, (.ireturn, 30, none, [0], .null, [])),
  (30, (.aload_n 0, 31, none, [0], .null, [])),
  (31, (.getfield 102, 34, none, [7, 11, 0, 3234], .null, [])),
  (34, (.bipush 6, 36, none, [], .int 6, [])),
  (36, (.if_icmp .ne 6, 39, none, [42], .null, [])),
  (39, (.bipush (-3), 41, none, [], .int (-3), [])),
  (41, (.ireturn, 42, none, [0], .null, [])),
  (42, (.aload_n 0, 43, none, [0], .null, [])),
  (43, (.getfield 32, 46, none, [7, 10, 2, 3233], .null, [])),
  (46, (.iconst 2, 47, none, [], .int 2, [])),
  (47, (.aload_n 0, 48, none, [0], .null, [])),
  (48, (.getfield 102, 51, none, [7, 11, 0, 3234], .null, [])),
  (51, (.imul, 52, none, [], .null, [])),
  (52, (.iload_n 1, 53, none, [1], .null, [])),
  (53, (.iastore, 54, none, [], .null, [])),
  (54, (.aload_n 0, 55, none, [0], .null, [])),
  (55, (.getfield 32, 58, none, [7, 10, 2, 3233], .null, [])),
  (58, (.iconst 2, 59, none, [], .int 2, [])),
  (59, (.aload_n 0, 60, none, [0], .null, [])),
  (60, (.getfield 102, 63, none, [7, 11, 0, 3234], .null, [])),
  (63, (.imul, 64, none, [], .null, [])),
  (64, (.iconst 1, 65, none, [], .int 1, [])),
  (65, (.iadd, 66, none, [], .null, [])),
  (66, (.iload_n 2, 67, none, [2], .null, [])),
  (67, (.iastore, 68, none, [], .null, [])),
  (68, (.aload_n 0, 69, none, [0], .null, [])),
  (69, (.dup, 70, none, [], .null, [])),
  (70, (.getfield 102, 73, none, [7, 11, 0, 3234], .null, [])),
  (73, (.iconst 1, 74, none, [], .int 1, [])),
  (74, (.iadd, 75, none, [], .null, [])),
  (75, (.putfield 102, 78, none, [7, 11, 0, 3234], .null, [])),
  (78, (.aload_n 0, 79, none, [0], .null, [])),
  (79, (.getfield 102, 82, none, [7, 11, 0, 3234], .null, [])),
  (82, (.ireturn, 83, none, [0], .null, []))]
def qm_129 : qM := (((⟨"PlushFlocksModel", "tells", "(II)I"⟩ : MethodName), prog_9_method_47_code, 3, (Option.some Jvm.ClassFile.FieldType.int)), ("PlushFlocksModel", 7, 1), [4174, 1007, 4172, 4173, 3], qc_129)
/-- 130: PlushFlocks.forget()I -/
def qc_130 : List (Nat × qI) := [(0, (.aload_n 0, 1, none, [0], .null, [])),
  (1, (.getfield 51, 4, none, [6, 8, 2, 1201], .null, [])),
  (4, (.getfield 226, 7, none, [1, 3, 0, 1145], .null, [])),
  (7, (.istore_n 1, 8, none, [1], .null, [])),
  (8, (.aload_n 0, 9, none, [0], .null, [])),
  (9, (.getfield 51, 12, none, [6, 8, 2, 1201], .null, [])),
  (12, (.invokevirtual 83, 15, none, [46, 1, 0, 2130, 0], .null, [])),
  (15, (.iload_n 1, 16, none, [1], .null, [])),
  (16, (.ireturn, 17, none, [0], .null, []))]
def qm_130 : qM := (((⟨"PlushFlocks", "forget", "()I"⟩ : MethodName), prog_1_method_22_code, 2, (Option.some Jvm.ClassFile.FieldType.int)), ("PlushFlocks", 6, 1), [3092, 1001, 3090, 3091, 1], qc_130)
/-- 131: PlushFlocksModel.forget()I -/
def qc_131 : List (Nat × qI) := [(0, (.aload_n 0, 1, none, [0], .null, [])),
  (1, (.getfield 102, 4, none, [7, 11, 0, 3234], .null, [])),
  (4, (.istore_n 1, 5, none, [1], .null, [])),
  (5, (.aload_n 0, 6, none, [0], .null, [])),
  (6, (.iconst 0, 7, none, [], .int 0, [])),
  (7, (.putfield 102, 10, none, [7, 11, 0, 3234], .null, [])),
  (10, (.iload_n 1, 11, none, [1], .null, [])),
  (11, (.ireturn, 12, none, [0], .null, []))]
def qm_131 : qM := (((⟨"PlushFlocksModel", "forget", "()I"⟩ : MethodName), prog_9_method_48_code, 2, (Option.some Jvm.ClassFile.FieldType.int)), ("PlushFlocksModel", 7, 1), [4178, 1007, 4176, 4177, 1], qc_131)
/-- 132: PlushFlocks$Grazing.eatenBy(LPlushFlocks$Plan;I)I -/
def qc_132 : List (Nat × qI) := [(0, (.iconst 0, 1, none, [], .int 0, [])),
  (1, (.istore_n 2, 2, none, [2], .null, [])),
  (2, (.iconst 0, 3, none, [], .int 0, [])),
  (3, (.istore_n 3, 4, none, [3], .null, [])),
  (4, (.iload_n 3, 5, some [0, 1, 2, 3], [3], .null, [])),
  (5, (.aload_n 0, 6, none, [0], .null, [])),
  (6, (.getfield 38, 9, none, [3, 1, 0, 1034], .null, [])),
  (9, (.if_icmp .ge 28, 12, none, [37], .null, [])),
  (12, (.iload_n 1, 13, none, [1], .null, [])),
  (13, (.iload_n 3, 14, none, [3], .null, [])),
  (14, (.invokestatic 59, 17, none, [52, 2, 1, 24, 1], .null, [])),
  (17, (.ifCond .eq 14, 20, none, [31], .null, [])),
  (20, (.iload_n 2, 21, none, [2], .null, [])),
  (21, (.aload_n 0, 22, none, [0], .null, [])),
  (22, (.getfield 63, 25, none, [3, 8, 1, 1056], .null, [])),
  (25, (.iload_n 3, 26, none, [3], .null, [])),
  (26, (.invokestatic 51, 29, none, [35, 2, 1, 23, 1], .null, [])),
  (29, (.iadd, 30, none, [], .null, [])),
  (30, (.istore_n 2, 31, none, [2], .null, [])),
  (31, (.iinc 3 1, 34, some [0, 1, 2, 3], [3], .int 1, [])),
  (34, (.goto (-30), 37, none, [4], .null, [])),
  (37, (.iload_n 2, 38, none, [2], .null, [])),
  (38, (.ireturn, 39, none, [0], .null, []))]
def qm_132 : qM := (((⟨"PlushFlocks$Grazing", "eatenBy", "(LPlushFlocks$Plan;I)I"⟩ : MethodName), prog_3_method_6_code, 4, (Option.some Jvm.ClassFile.FieldType.int)), ("PlushFlocks$Grazing", 1, 0), [3108, 1005, 3107, 0, 2], qc_132)
/-- 133: PlushFlocks$Grazing.agrees(LPlushFlocks$Plan;I)Z -/
def qc_133 : List (Nat × qI) := [(0, (.iconst 0, 1, none, [], .int 0, [])),
  (1, (.istore_n 3, 2, none, [3], .null, [])),
  (2, (.iload_n 3, 3, some [0, 1, 2, 3], [3], .null, [])),
  (3, (.aload_n 0, 4, none, [0], .null, [])),
  (4, (.getfield 21, 7, none, [1, 3, 0, 1144], .null, [])),
  (7, (.if_icmp .ge 36, 10, none, [43], .null, [])),
  (10, (.aload_n 1, 11, none, [1], .null, [])),
  (11, (.iload_n 2, 12, none, [2], .null, [])),
  (12, (.aload_n 0, 13, none, [0], .null, [])),
  (13, (.getfield 9, 16, none, [1, 0, 1, 1141], .null, [])),
  (16, (.iload_n 3, 17, none, [3], .null, [])),
  (17, (.invokestatic 51, 20, none, [35, 2, 1, 23, 1], .null, [])),
  (20, (.iand, 21, none, [], .null, [])),
  (21, (.invokestatic 55, 24, none, [132, 2, 1, 3106, 0], .null, [])),
  (24, (.aload_n 0, 25, none, [0], .null, [])),
  (25, (.getfield 15, 28, none, [1, 1, 1, 1142], .null, [])),
  (28, (.iload_n 3, 29, none, [3], .null, [])),
  (29, (.invokestatic 51, 32, none, [35, 2, 1, 23, 1], .null, [])),
  (32, (.if_icmp .eq 5, 35, none, [37], .null, [])),
  (35, (.iconst 0, 36, none, [], .int 0, [])),
  (36, (.ireturn, 37, none, [4], .null, [])),
  (37, (.iinc 3 1, 40, none, [3], .int 1, [])),
  (40, (.goto (-38), 43, none, [2], .null, [])),
  (43, (.iconst 1, 44, none, [], .int 1, [])),
  (44, (.ireturn, 45, none, [4], .null, []))]
def qm_133 : qM := (((⟨"PlushFlocks$Grazing", "agrees", "(LPlushFlocks$Plan;I)Z"⟩ : MethodName), prog_3_method_5_code, 4, (Option.some Jvm.ClassFile.FieldType.boolean)), ("PlushFlocks$Grazing", 1, 1), [3104, 1005, 3103, 19, 3], qc_133)
/-- 134: PlushFlocks$Grazing.add(LPlushFlocks$Plan;I)V -/
def qc_134 : List (Nat × qI) := [(0, (.aload_n 0, 1, none, [0], .null, [])),
  (1, (.dup, 2, none, [], .null, [])),
  (2, (.getfield 25, 5, none, [1, 4, 0, 1146], .null, [])),
  (5, (.iconst 1, 6, none, [], .int 1, [])),
  (6, (.iadd, 7, none, [], .null, [])),
  (7, (.putfield 25, 10, none, [1, 4, 0, 1146], .null, [])),
  (10, (.aload_n 0, 11, none, [0], .null, [])),
  (11, (.dup, 12, none, [], .null, [])),
  (12, (.getfield 28, 15, none, [1, 5, 0, 1148], .null, [])),
  (15, (.iload_n 2, 16, none, [2], .null, [])),
  (16, (.iand, 17, none, [], .null, [])),
  (17, (.putfield 28, 20, none, [1, 5, 0, 1148], .null, [])),
  (20, (.aload_n 0, 21, none, [0], .null, [])),
  (21, (.dup, 22, none, [], .null, [])),
  (22, (.getfield 31, 25, none, [1, 6, 0, 1150], .null, [])),
  (25, (.iload_n 2, 26, none, [2], .null, [])),
  (26, (.ior, 27, none, [], .null, [])),
  (27, (.putfield 31, 30, none, [1, 6, 0, 1150], .null, [])),
  (30, (.iconst 0, 31, none, [], .int 0, [])),
  (31, (.istore_n 3, 32, none, [3], .null, [])),
  (32, (.iload_n 3, 33, some [0, 1, 2, 3], [3], .null, [])),
  (33, (.aload_n 1, 34, none, [1], .null, [])),
  (34, (.getfield 38, 37, none, [3, 1, 0, 1034], .null, [])),
  (37, (.if_icmp .ge 32, 40, none, [69], .null, [])),
  (40, (.iload_n 2, 41, none, [2], .null, [])),
  (41, (.iload_n 3, 42, none, [3], .null, [])),
  (42, (.invokestatic 59, 45, none, [52, 2, 1, 24, 1], .null, [])),
  (45, (.ifCond .eq 18, 48, none, [63], .null, [])),
  (48, (.aload_n 0, 49, none, [0], .null, [])),
  (49, (.dup, 50, none, [], .null, [])),
  (50, (.getfield 18, 53, none, [1, 2, 1, 1143], .null, [])),
  (53, (.lconst 1, 54, none, [], .long 1, [])),
  (54, (.bipush 8, 56, none, [], .int 8, [])),
  (56, (.iload_n 3, 57, none, [3], .null, [])),
  (57, (.imul, 58, none, [], .null, [])),
  (58, (.lshl, 59, none, [], .null, [])),
  (59, (.ladd, 60, none, [], .null, [])),
  (60, (.putfield 18, 63, none, [1, 2, 1, 1143], .null, [])),
  (63, (.iinc 3 1, 66, some [0, 1, 2, 3], [3], .int 1, [])),
  (66, (.goto (-34), 69, none, [32], .null, [])),
  (69, (.return_, 70, none, [], .null, []))]
def qm_134 : qM := (((⟨"PlushFlocks$Grazing", "add", "(LPlushFlocks$Plan;I)V"⟩ : MethodName), prog_3_method_7_code, 4, (Option.none : Option Jvm.ClassFile.FieldType)), ("PlushFlocks$Grazing", 1, 1), [3113, 1005, 3112, 20, 3], qc_134)
/-- 135: PlushFlocks$Grazing.weigh(LPlushFlocks$Plan;)V -/
def qc_135 : List (Nat × qI) := [(0, (.aload_n 0, 1, none, [0], .null, [])),
  (1, (.iconst 0, 2, none, [], .int 0, [])),
  (2, (.putfield 25, 5, none, [1, 4, 0, 1146], .null, [])),
  (5, (.aload_n 0, 6, none, [0], .null, [])),
  (6, (.lconst 0, 7, none, [], .long 0, [])),
  (7, (.putfield 18, 10, none, [1, 2, 1, 1143], .null, [])),
  (10, (.aload_n 0, 11, none, [0], .null, [])),
  (11, (.iconst 1, 12, none, [], .int 1, [])),
  (12, (.aload_n 1, 13, none, [1], .null, [])),
  (13, (.getfield 38, 16, none, [3, 1, 0, 1034], .null, [])),
  (16, (.ishl, 17, none, [], .null, [])),
  (17, (.iconst 1, 18, none, [], .int 1, [])),
  (18, (.isub, 19, none, [], .null, [])),
  (19, (.putfield 28, 22, none, [1, 5, 0, 1148], .null, [])),
  (22, (.aload_n 0, 23, none, [0], .null, [])),
  (23, (.iconst 0, 24, none, [], .int 0, [])),
  (24, (.putfield 31, 27, none, [1, 6, 0, 1150], .null, [])),
  (27, (.iconst 0, 28, none, [], .int 0, [])),
  (28, (.istore_n 2, 29, none, [2], .null, [])),
  (29, (.iload_n 2, 30, some [0, 1, 2], [2], .null, [])),
  (30, (.iconst 1, 31, none, [], .int 1, [])),
  (31, (.aload_n 1, 32, none, [1], .null, [])),
  (32, (.getfield 38, 35, none, [3, 1, 0, 1034], .null, [])),
  (35, (.ishl, 36, none, [], .null, [])),
  (36, (.if_icmp .ge 24, 39, none, [60], .null, [])),
  (39, (.aload_n 0, 40, none, [0], .null, [])),
  (40, (.aload_n 1, 41, none, [1], .null, [])),
  (41, (.iload_n 2, 42, none, [2], .null, [])),
  (42, (.invokevirtual 43, 45, none, [133, 3, 1, 3101, 0], .null, [])),
  (45, (.ifCond .eq 9, 48, none, [54], .null, [])),
  (48, (.aload_n 0, 49, none, [0], .null, [])),
  (49, (.aload_n 1, 50, none, [1], .null, [])),
  (50, (.iload_n 2, 51, none, [2], .null, [])),
  (51, (.invokevirtual 47, 54, none, [134, 3, 0, 3110, 0], .null, [])),
  (54, (.iinc 2 1, 57, some [0, 1, 2], [2], .int 1, [])),
  (57, (.goto (-28), 60, none, [29], .null, [])),
  (60, (.return_, 61, none, [], .null, []))]
def qm_135 : qM := (((⟨"PlushFlocks$Grazing", "weigh", "(LPlushFlocks$Plan;)V"⟩ : MethodName), prog_3_method_4_code, 3, (Option.none : Option Jvm.ClassFile.FieldType)), ("PlushFlocks$Grazing", 1, 1), [3100, 1005, 3098, 3099, 2], qc_135)
/-- 136: PlushFlocks.can(I)I -/
def qc_136 : List (Nat × qI) := [(0, (.iload_n 1, 1, none, [1], .null, [])),
  (1, (.ifCond .lt 8, 4, none, [9], .null, [])),
  (4, (.iload_n 1, 5, none, [1], .null, [])),
  (5, (.iconst 2, 6, none, [], .int 2, [])),
  (6, (.if_icmp .le 5, 9, none, [11], .null, [])),
  (9, (.iconst (-1), 10, some [], [], .int (-1), [])),
  (10, (.ireturn, 11, none, [0], .null, [])),
  (11, (.aload_n 0, 12, none, [0], .null, [])),
  (12, (.getfield 51, 15, none, [6, 8, 2, 1201], .null, [])),
  (15, (.aload_n 0, 16, none, [0], .null, [])),
  (16, (.getfield 20, 19, none, [6, 2, 2, 1195], .null, [])),
  (19, (.invokevirtual 229, 22, none, [135, 2, 0, 3097, 0], .null, [])),
  (22, (.iload_n 1, 23, none, [1], .null, [])),
  (23, (.ifCond .ne 11, 26, none, [34], .null, [])),
  (26, (.aload_n 0, 27, none, [0], .null, [])),
  (27, (.getfield 51, 30, none, [6, 8, 2, 1201], .null, [])),
  (30, (.getfield 232, 33, none, [1, 4, 0, 1147], .null, [])),
  (33, (.ireturn, 34, none, [0], .null, [])),
  (34, (.iload_n 1, 35, none, [1], .null, [])),
  (35, (.iconst 2, 36, none, [], .int 2, [])),
  (36, (.if_icmp .ne 11, 39, none, [47], .null, [])),
  (39, (.aload_n 0, 40, none, [0], .null, [])),
  (40, (.getfield 51, 43, none, [6, 8, 2, 1201], .null, [])),
  (43, (.getfield 235, 46, none, [1, 6, 0, 1151], .null, [])),
  (46, (.ireturn, 47, none, [0], .null, [])),
  (47, (.aload_n 0, 48, none, [0], .null, [])),
  (48, (.getfield 51, 51, none, [6, 8, 2, 1201], .null, [])),
  (51, (.getfield 232, 54, none, [1, 4, 0, 1147], .null, [])),
  (54, (.ifCond .ne 8, 57, none, [62], .null, [])),
  (57, (.bipush (-9), 59, none, [], .int (-9), [])),
  (59, (.goto 10, 62, none, [69], .null, [])),
  (62, (.aload_n 0, 63, none, [0], .null, [])),
  (63, (.getfield 51, 66, none, [6, 8, 2, 1201], .null, [])),
  (66, (.getfield 238, 69, none, [1, 5, 0, 1149], .null, [])),
  (69, (.ireturn, 70, some [], [0], .null, []))]
def qm_136 : qM := (((⟨"PlushFlocks", "can", "(I)I"⟩ : MethodName), prog_1_method_23_code, 2, (Option.some Jvm.ClassFile.FieldType.int)), ("PlushFlocks", 6, 1), [3096, 1001, 3094, 3095, 2], qc_136)
/-- 137: PlushFlocksModel.isSo(I)Z -/
def qc_137 : List (Nat × qI) := [(0, (.iconst 1, 1, none, [], .int 1, [])),
  (1, (.istore_n 2, 2, none, [2], .null, [])),
  (2, (.iconst 0, 3, none, [], .int 0, [])),
  (3, (.istore_n 3, 4, none, [3], .null, [])),
  (4, (.iload_n 3, 5, some [0, 1, 2, 3], [3], .null, [])),
  (5, (.aload_n 0, 6, none, [0], .null, [])),
  (6, (.getfield 102, 9, none, [7, 11, 0, 3234], .null, [])),
  (9, (.if_icmp .ge 94, 12, none, [103], .null, [])),
  (12, (.iconst 0, 13, none, [], .int 0, [])),
  (13, (.istore 4, 15, none, [4], .null, [])),
  (15, (.iconst 0, 16, none, [], .int 0, [])),
  (16, (.istore 5, 18, none, [5], .null, [])),
  (18, (.iload 5, 20, some [0, 1, 2, 3, 4, 5], [5], .null, [])),
  (20, (.aload_n 0, 21, none, [0], .null, [])),
  (21, (.getfield 13, 24, none, [7, 3, 2, 3226], .null, [])),
  (24, (.iconst 1, 25, none, [], .int 1, [])),
  (25, (.iaload, 26, none, [1], .null, [])),
  (26, (.if_icmp .ge 46, 29, none, [72], .null, [])),
  (29, (.iload 4, 31, none, [4], .null, [])),
  (31, (.iload_n 1, 32, none, [1], .null, [])),
  (32, (.aload_n 0, 33, none, [0], .null, [])),
  (33, (.getfield 32, 36, none, [7, 10, 2, 3233], .null, [])),
  (36, (.iconst 2, 37, none, [], .int 2, [])),
  (37, (.iload_n 3, 38, none, [3], .null, [])),
  (38, (.imul, 39, none, [], .null, [])),
  (39, (.iaload, 40, none, [1], .null, [])),
  (40, (.iand, 41, none, [], .null, [])),
  (41, (.iload 5, 43, none, [5], .null, [])),
  (43, (.invokestatic 105, 46, none, [64, 2, 1, 4078, 0], .null, [])),
  (46, (.ifCond .eq 16, 49, none, [62], .null, [])),
  (49, (.aload_n 0, 50, none, [0], .null, [])),
  (50, (.getfield 13, 53, none, [7, 3, 2, 3226], .null, [])),
  (53, (.bipush 25, 55, none, [], .int 25, [])),
  (55, (.iload 5, 57, none, [5], .null, [])),
  (57, (.iadd, 58, none, [], .null, [])),
  (58, (.iaload, 59, none, [1], .null, [])),
  (59, (.goto 4, 62, none, [63], .null, [])),
  (62, (.iconst 0, 63, none, [], .int 0, [])),
  (63, (.iadd, 64, some [0, 1, 2, 3, 5], [], .null, [])),
  (64, (.istore 4, 66, none, [4], .null, [])),
  (66, (.iinc 5 1, 69, none, [5], .int 1, [])),
  (69, (.goto (-51), 72, none, [18], .null, [])),
  (72, (.iload_n 2, 73, none, [2], .null, [])),
  (73, (.ifCond .eq 22, 76, none, [95], .null, [])),
  (76, (.iload 4, 78, none, [4], .null, [])),
  (78, (.aload_n 0, 79, none, [0], .null, [])),
  (79, (.getfield 32, 82, none, [7, 10, 2, 3233], .null, [])),
  (82, (.iconst 2, 83, none, [], .int 2, [])),
  (83, (.iload_n 3, 84, none, [3], .null, [])),
  (84, (.imul, 85, none, [], .null, [])),
  (85, (.iconst 1, 86, none, [], .int 1, [])),
  (86, (.iadd, 87, none, [], .null, [])),
  (87, (.iaload, 88, none, [1], .null, [])),
  (88, (.if_icmp .ne 7, 91, none, [95], .null, [])),
  (91, (.iconst 1, 92, none, [], .int 1, [])),
  (92, (.goto 4, 95, none, [96], .null, [])),
  (95, (.iconst 0, 96, some [0, 1, 3], [], .int 0, [])),
  (96, (.istore_n 2, 97, some [0, 1, 3], [2], .null, [])),
  (97, (.iinc 3 1, 100, none, [3], .int 1, [])),
  (100, (.goto (-96), 103, none, [4], .null, [])),
  (103, (.iload_n 2, 104, none, [2], .null, [])),
  (104, (.ireturn, 105, none, [4], .null, []))]
def qm_137 : qM := (((⟨"PlushFlocksModel", "isSo", "(I)Z"⟩ : MethodName), prog_9_method_49_code, 6, (Option.some Jvm.ClassFile.FieldType.boolean)), ("PlushFlocksModel", 7, 1), [4190, 1007, 4189, 50, 2], qc_137)
/-- 138: PlushFlocksModel.manyWith(I)I -/
def qc_138 : List (Nat × qI) := [(0, (.iconst 0, 1, none, [], .int 0, [])),
  (1, (.istore_n 2, 2, none, [2], .null, [])),
  (2, (.iconst 0, 3, none, [], .int 0, [])),
  (3, (.istore_n 3, 4, none, [3], .null, [])),
  (4, (.iload_n 3, 5, some [0, 1, 2, 3], [3], .null, [])),
  (5, (.iconst 1, 6, none, [], .int 1, [])),
  (6, (.aload_n 0, 7, none, [0], .null, [])),
  (7, (.getfield 13, 10, none, [7, 3, 2, 3226], .null, [])),
  (10, (.iconst 1, 11, none, [], .int 1, [])),
  (11, (.iaload, 12, none, [1], .null, [])),
  (12, (.ishl, 13, none, [], .null, [])),
  (13, (.if_icmp .ge 39, 16, none, [52], .null, [])),
  (16, (.iload_n 2, 17, none, [2], .null, [])),
  (17, (.iload_n 1, 18, none, [1], .null, [])),
  (18, (.bipush (-9), 20, none, [], .int (-9), [])),
  (20, (.if_icmp .eq 11, 23, none, [31], .null, [])),
  (23, (.iload_n 3, 24, none, [3], .null, [])),
  (24, (.iload_n 1, 25, none, [1], .null, [])),
  (25, (.invokestatic 105, 28, none, [64, 2, 1, 4078, 0], .null, [])),
  (28, (.ifCond .eq 15, 31, none, [43], .null, [])),
  (31, (.aload_n 0, 32, some [0, 1, 3], [0], .null, [])),
  (32, (.iload_n 3, 33, none, [3], .null, [])),
  (33, (.invokevirtual 160, 36, none, [137, 2, 1, 4187, 0], .null, [])),
  (36, (.ifCond .eq 7, 39, none, [43], .null, [])),
  (39, (.iconst 1, 40, none, [], .int 1, [])),
  (40, (.goto 4, 43, none, [44], .null, [])),
  (43, (.iconst 0, 44, some [0, 1, 3], [], .int 0, [])),
  (44, (.iadd, 45, some [0, 1, 3], [], .null, [])),
  (45, (.istore_n 2, 46, none, [2], .null, [])),
  (46, (.iinc 3 1, 49, none, [3], .int 1, [])),
  (49, (.goto (-45), 52, none, [4], .null, [])),
  (52, (.iload_n 2, 53, none, [2], .null, [])),
  (53, (.ireturn, 54, none, [0], .null, []))]
def qm_138 : qM := (((⟨"PlushFlocksModel", "manyWith", "(I)I"⟩ : MethodName), prog_9_method_50_code, 4, (Option.some Jvm.ClassFile.FieldType.int)), ("PlushFlocksModel", 7, 1), [4186, 1007, 4185, 49, 2], qc_138)
/-- 139: PlushFlocksModel.can(I)I -/
def qc_139 : List (Nat × qI) := [(0, (.iload_n 1, 1, none, [1], .null, [])),
  (1, (.iconst 0, 2, none, [], .int 0, [])),
  (2, (.iconst 2, 3, none, [], .int 2, [])),
  (3, (.invokestatic 52, 6, none, [8, 3, 1, 3200, 0], .null, [])),
  (6, (.ifCond .ne 5, 9, none, [11], .null, [])),
  (9, (.iconst (-1), 10, none, [], .int (-1), [])),
  (10, (.ireturn, 11, none, [0], .null, [])),
  (11, (.aload_n 0, 12, none, [0], .null, [])),
  (12, (.bipush (-9), 14, none, [], .int (-9), [])),
  (14, (.invokevirtual 163, 17, none, [138, 2, 1, 4183, 0], .null, [])),
  (17, (.istore_n 2, 18, none, [2], .null, [])),
  (18, (.iconst 0, 19, none, [], .int 0, [])),
  (19, (.istore_n 3, 20, none, [3], .null, [])),
  (20, (.iconst 0, 21, none, [], .int 0, [])),
  (21, (.istore 4, 23, none, [4], .null, [])),
  (23, (.iconst 0, 24, none, [], .int 0, [])),
  (24, (.istore 5, 26, none, [5], .null, [])),
  (26, (.iload 5, 28, some [0, 1, 2, 3, 4, 5], [5], .null, [])),
  (28, (.aload_n 0, 29, none, [0], .null, [])),
  (29, (.getfield 13, 32, none, [7, 3, 2, 3226], .null, [])),
  (32, (.iconst 1, 33, none, [], .int 1, [])),
  (33, (.iaload, 34, none, [1], .null, [])),
  (34, (.if_icmp .ge 52, 37, none, [86], .null, [])),
  (37, (.aload_n 0, 38, none, [0], .null, [])),
  (38, (.iload 5, 40, none, [5], .null, [])),
  (40, (.invokevirtual 163, 43, none, [138, 2, 1, 4183, 0], .null, [])),
  (43, (.istore 6, 45, none, [6], .null, [])),
  (45, (.iload_n 3, 46, none, [3], .null, [])),
  (46, (.iload 6, 48, none, [6], .null, [])),
  (48, (.iload_n 2, 49, none, [2], .null, [])),
  (49, (.if_icmp .ne 10, 52, none, [59], .null, [])),
  (52, (.iconst 1, 53, none, [], .int 1, [])),
  (53, (.iload 5, 55, none, [5], .null, [])),
  (55, (.ishl, 56, none, [], .null, [])),
  (56, (.goto 4, 59, none, [60], .null, [])),
  (59, (.iconst 0, 60, none, [], .int 0, [])),
  (60, (.ior, 61, some [0, 1, 2, 4, 5, 6], [], .null, [])),
  (61, (.istore_n 3, 62, none, [3], .null, [])),
  (62, (.iload 4, 64, none, [4], .null, [])),
  (64, (.iload 6, 66, none, [6], .null, [])),
  (66, (.ifCond .le 10, 69, none, [76], .null, [])),
  (69, (.iconst 1, 70, none, [], .int 1, [])),
  (70, (.iload 5, 72, none, [5], .null, [])),
  (72, (.ishl, 73, none, [], .null, [])),
  (73, (.goto 4, 76, none, [77], .null, [])),
  (76, (.iconst 0, 77, none, [], .int 0, [])),
  (77, (.ior, 78, some [0, 1, 2, 3, 5], [], .null, [])),
  (78, (.istore 4, 80, none, [4], .null, [])),
  (80, (.iinc 5 1, 83, none, [5], .int 1, [])),
  (83, (.goto (-57), 86, none, [26], .null, [])),
  (86, (.iload_n 1, 87, none, [1], .null, [])),
  (87, (.ifCond .ne 7, 90, none, [94], .null, [])),
  (90, (.iload_n 2, 91, none, [2], .null, [])),
  (91, (.goto 23, 94, none, [114], .null, [])),
  (94, (.iload_n 1, 95, none, [1], .null, [])),
  (95, (.iconst 2, 96, none, [], .int 2, [])),
  (96, (.if_icmp .ne 8, 99, none, [104], .null, [])),
  (99, (.iload 4, 101, none, [4], .null, [])),
  (101, (.goto 13, 104, none, [114], .null, [])),
  (104, (.iload_n 2, 105, none, [2], .null, [])),
  (105, (.ifCond .ne 8, 108, none, [113], .null, [])),
  (108, (.bipush (-9), 110, none, [], .int (-9), [])),
  (110, (.goto 4, 113, none, [114], .null, [])),
  (113, (.iload_n 3, 114, none, [3], .null, [])),
  (114, (.ireturn, 115, some [], [0], .null, []))]
def qm_139 : qM := (((⟨"PlushFlocksModel", "can", "(I)I"⟩ : MethodName), prog_9_method_51_code, 7, (Option.some Jvm.ClassFile.FieldType.int)), ("PlushFlocksModel", 7, 1), [4182, 1007, 4180, 4181, 2], qc_139)
/-- 140: PlushFlocks$Grazing.bestAsked(I)I -/
def qc_140 : List (Nat × qI) := [(0, (.bipush (-9), 2, none, [], .int (-9), [])),
  (2, (.istore_n 2, 3, none, [2], .null, [])),
  (3, (.aload_n 0, 4, none, [0], .null, [])),
  (4, (.getfield 25, 7, none, [1, 4, 0, 1146], .null, [])),
  (7, (.iconst 1, 8, none, [], .int 1, [])),
  (8, (.iadd, 9, none, [], .null, [])),
  (9, (.istore_n 3, 10, none, [3], .null, [])),
  (10, (.iconst 0, 11, none, [], .int 0, [])),
  (11, (.istore 4, 13, none, [4], .null, [])),
  (13, (.iload 4, 15, some [0, 1, 2, 3, 4], [4], .null, [])),
  (15, (.iload_n 1, 16, none, [1], .null, [])),
  (16, (.if_icmp .ge 46, 19, none, [62], .null, [])),
  (19, (.aload_n 0, 20, none, [0], .null, [])),
  (20, (.getfield 18, 23, none, [1, 2, 1, 1143], .null, [])),
  (23, (.iload 4, 25, none, [4], .null, [])),
  (25, (.invokestatic 51, 28, none, [35, 2, 1, 23, 1], .null, [])),
  (28, (.istore 5, 30, none, [5], .null, [])),
  (30, (.iload 5, 32, none, [5], .null, [])),
  (32, (.aload_n 0, 33, none, [0], .null, [])),
  (33, (.getfield 25, 36, none, [1, 4, 0, 1146], .null, [])),
  (36, (.iload 5, 38, none, [5], .null, [])),
  (38, (.isub, 39, none, [], .null, [])),
  (39, (.invokestatic 66, 42, none, [996, 2, 1, 3122, 0], .null, [])),
  (42, (.istore 6, 44, none, [6], .null, [])),
  (44, (.iload 6, 46, none, [6], .null, [])),
  (46, (.iload_n 3, 47, none, [3], .null, [])),
  (47, (.if_icmp .ge 9, 50, none, [56], .null, [])),
  (50, (.iload 4, 52, none, [4], .null, [])),
  (52, (.istore_n 2, 53, none, [2], .null, [])),
  (53, (.iload 6, 55, none, [6], .null, [])),
  (55, (.istore_n 3, 56, none, [3], .null, [])),
  (56, (.iinc 4 1, 59, some [0, 1, 2, 3, 4], [4], .int 1, [])),
  (59, (.goto (-46), 62, none, [13], .null, [])),
  (62, (.iload_n 2, 63, none, [2], .null, [])),
  (63, (.ireturn, 64, none, [0], .null, []))]
def qm_140 : qM := (((⟨"PlushFlocks$Grazing", "bestAsked", "(I)I"⟩ : MethodName), prog_3_method_8_code, 7, (Option.some Jvm.ClassFile.FieldType.int)), ("PlushFlocks$Grazing", 1, 1), [3121, 1005, 3119, 3120, 2], qc_140)
/-- 141: PlushFlocks.ask()I -/
def qc_141 : List (Nat × qI) := [(0, (.aload_n 0, 1, none, [0], .null, [])),
  (1, (.getfield 51, 4, none, [6, 8, 2, 1201], .null, [])),
  (4, (.aload_n 0, 5, none, [0], .null, [])),
  (5, (.getfield 20, 8, none, [6, 2, 2, 1195], .null, [])),
  (8, (.invokevirtual 229, 11, none, [135, 2, 0, 3097, 0], .null, [])),
  (11, (.aload_n 0, 12, none, [0], .null, [])),
  (12, (.getfield 51, 15, none, [6, 8, 2, 1201], .null, [])),
  (15, (.getfield 232, 18, none, [1, 4, 0, 1147], .null, [])),
  (18, (.iconst 1, 19, none, [], .int 1, [])),
  (19, (.if_icmp .gt 8, 22, none, [27], .null, [])),
  (22, (.bipush (-9), 24, none, [], .int (-9), [])),
  (24, (.goto 17, 27, none, [41], .null, [])),
  (27, (.aload_n 0, 28, none, [0], .null, [])),
  (28, (.getfield 51, 31, none, [6, 8, 2, 1201], .null, [])),
  (31, (.aload_n 0, 32, none, [0], .null, [])),
  (32, (.getfield 20, 35, none, [6, 2, 2, 1195], .null, [])),
  (35, (.getfield 207, 38, none, [3, 1, 0, 1036], .null, [])),
  (38, (.invokevirtual 241, 41, none, [140, 2, 1, 3118, 0], .null, [])),
  (41, (.ireturn, 42, some [], [0], .null, []))]
def qm_141 : qM := (((⟨"PlushFlocks", "ask", "()I"⟩ : MethodName), prog_1_method_24_code, 1, (Option.some Jvm.ClassFile.FieldType.int)), ("PlushFlocks", 6, 1), [3117, 1001, 3115, 3116, 1], qc_141)
/-- 142: PlushFlocksModel.ask()I -/
def qc_142 : List (Nat × qI) := [(0, (.aload_n 0, 1, none, [0], .null, [])),
  (1, (.bipush (-9), 3, none, [], .int (-9), [])),
  (3, (.invokevirtual 163, 6, none, [138, 2, 1, 4183, 0], .null, [])),
  (6, (.istore_n 1, 7, none, [1], .null, [])),
  (7, (.bipush (-9), 9, none, [], .int (-9), [])),
  (9, (.istore_n 2, 10, none, [2], .null, [])),
  (10, (.iload_n 1, 11, none, [1], .null, [])),
  (11, (.iconst 1, 12, none, [], .int 1, [])),
  (12, (.iadd, 13, none, [], .null, [])),
  (13, (.istore_n 3, 14, none, [3], .null, [])),
  (14, (.iconst 0, 15, none, [], .int 0, [])),
  (15, (.istore 4, 17, none, [4], .null, [])),
  (17, (.iload 4, 19, some [0, 1, 2, 3, 4], [4], .null, [])),
  (19, (.aload_n 0, 20, none, [0], .null, [])),
  (20, (.getfield 13, 23, none, [7, 3, 2, 3226], .null, [])),
  (23, (.iconst 1, 24, none, [], .int 1, [])),
  (24, (.iaload, 25, none, [1], .null, [])),
  (25, (.if_icmp .ge 68, 28, none, [93], .null, [])),
  (28, (.iload_n 1, 29, none, [1], .null, [])),
  (29, (.iconst 1, 30, none, [], .int 1, [])),
  (30, (.if_icmp .le 63, 33, none, [93], .null, [])),
  (33, (.aload_n 0, 34, none, [0], .null, [])),
  (34, (.iload 4, 36, none, [4], .null, [])),
  (36, (.invokevirtual 163, 39, none, [138, 2, 1, 4183, 0], .null, [])),
  (39, (.istore 5, 41, none, [5], .null, [])),
  (41, (.iload 5, 43, none, [5], .null, [])),
  (43, (.iload_n 1, 44, none, [1], .null, [])),
  (44, (.iload 5, 46, none, [5], .null, [])),
  (46, (.isub, 47, none, [], .null, [])),
  (47, (.if_icmp .le 8, 50, none, [55], .null, [])),
  (50, (.iload 5, 52, none, [5], .null, [])),
  (52, (.goto 7, 55, none, [59], .null, [])),
  (55, (.iload_n 1, 56, none, [1], .null, [])),
  (56, (.iload 5, 58, none, [5], .null, [])),
  (58, (.isub, 59, none, [], .null, [])),
  (59, (.istore 6, 61, some [0, 1, 2, 3, 4], [6], .null, [])),
  (61, (.iload 6, 63, none, [6], .null, [])),
  (63, (.iload_n 3, 64, none, [3], .null, [])),
  (64, (.if_icmp .ge 8, 67, none, [72], .null, [])),
  (67, (.iload 4, 69, none, [4], .null, [])),
  (69, (.goto 4, 72, none, [73], .null, [])),
  (72, (.iload_n 2, 73, none, [2], .null, [])),
  (73, (.istore_n 2, 74, some [0, 1, 3, 4, 6], [2], .null, [])),
  (74, (.iload 6, 76, none, [6], .null, [])),
  (76, (.iload_n 3, 77, none, [3], .null, [])),
  (77, (.if_icmp .ge 8, 80, none, [85], .null, [])),
  (80, (.iload 6, 82, none, [6], .null, [])),
  (82, (.goto 4, 85, none, [86], .null, [])),
  (85, (.iload_n 3, 86, none, [3], .null, [])),
  (86, (.istore_n 3, 87, some [0, 1, 2, 4], [3], .null, [])),
  (87, (.iinc 4 1, 90, none, [4], .int 1, [])),
  (90, (.goto (-73), 93, none, [17], .null, [])),
  (93, (.iload_n 2, 94, some [2], [2], .null, [])),
  (94, (.ireturn, 95, none, [0], .null, []))]
def qm_142 : qM := (((⟨"PlushFlocksModel", "ask", "()I"⟩ : MethodName), prog_9_method_52_code, 7, (Option.some Jvm.ClassFile.FieldType.int)), ("PlushFlocksModel", 7, 1), [4194, 1007, 4192, 4193, 1], qc_142)
/-- 143: PlushFlocks.pile(I)I -/
def qc_143 : List (Nat × qI) := [(0, (.aload_n 0, 1, none, [0], .null, [])),
  (1, (.dup, 2, none, [], .null, [])),
  (2, (.getfield 62, 5, none, [6, 10, 1, 1203], .null, [])),
  (5, (.lconst 1, 6, none, [], .long 1, [])),
  (6, (.ladd, 7, none, [], .null, [])),
  (7, (.putfield 62, 10, none, [6, 10, 1, 1203], .null, [])),
  (10, (.aload_n 0, 11, none, [0], .null, [])),
  (11, (.getfield 20, 14, none, [6, 2, 2, 1195], .null, [])),
  (14, (.getfield 127, 17, none, [3, 8, 1, 1057], .null, [])),
  (17, (.iload_n 1, 18, none, [1], .null, [])),
  (18, (.invokestatic 94, 21, none, [35, 2, 1, 2139, 0], .null, [])),
  (21, (.ireturn, 22, none, [0], .null, []))]
def qm_143 : qM := (((⟨"PlushFlocks", "pile", "(I)I"⟩ : MethodName), prog_1_method_30_code, 2, (Option.some Jvm.ClassFile.FieldType.int)), ("PlushFlocks", 6, 1), [3133, 1001, 3132, 21, 2], qc_143)
/-- 144: PlushFlocks.cord(I)I -/
def qc_144 : List (Nat × qI) := [(0, (.aload_n 0, 1, none, [0], .null, [])),
  (1, (.dup, 2, none, [], .null, [])),
  (2, (.getfield 62, 5, none, [6, 10, 1, 1203], .null, [])),
  (5, (.ldc2_w 270, 8, none, [3138], .long 10, [])),
  (8, (.ladd, 9, none, [], .null, [])),
  (9, (.putfield 62, 12, none, [6, 10, 1, 1203], .null, [])),
  (12, (.aload_n 0, 13, none, [0], .null, [])),
  (13, (.iload_n 1, 14, none, [1], .null, [])),
  (14, (.invokevirtual 245, 17, none, [143, 2, 1, 3130, 0], .null, [])),
  (17, (.aload_n 0, 18, none, [0], .null, [])),
  (18, (.getfield 27, 21, none, [6, 3, 2, 1196], .null, [])),
  (21, (.getfield 98, 24, none, [0, 1, 1, 1092], .null, [])),
  (24, (.aload_n 0, 25, none, [0], .null, [])),
  (25, (.getfield 27, 28, none, [6, 3, 2, 1196], .null, [])),
  (28, (.getfield 104, 31, none, [0, 0, 0, 1090], .null, [])),
  (31, (.iload_n 1, 32, none, [1], .null, [])),
  (32, (.invokestatic 124, 35, none, [49, 2, 1, 2196, 0], .null, [])),
  (35, (.invokestatic 94, 38, none, [35, 2, 1, 2139, 0], .null, [])),
  (38, (.iadd, 39, none, [], .null, [])),
  (39, (.ireturn, 40, none, [0], .null, []))]
def qm_144 : qM := (((⟨"PlushFlocks", "cord", "(I)I"⟩ : MethodName), prog_1_method_31_code, 2, (Option.some Jvm.ClassFile.FieldType.int)), ("PlushFlocks", 6, 1), [3137, 1001, 3136, 22, 2], qc_144)
/-- 145: PlushFlocks.nap(I)I -/
def qc_145 : List (Nat × qI) := [(0, (.aload_n 0, 1, none, [0], .null, [])),
  (1, (.dup, 2, none, [], .null, [])),
  (2, (.getfield 62, 5, none, [6, 10, 1, 1203], .null, [])),
  (5, (.ldc2_w 272, 8, none, [3143], .long 100, [])),
  (8, (.ladd, 9, none, [], .null, [])),
  (9, (.putfield 62, 12, none, [6, 10, 1, 1203], .null, [])),
  (12, (.aload_n 0, 13, none, [0], .null, [])),
  (13, (.iload_n 1, 14, none, [1], .null, [])),
  (14, (.invokevirtual 245, 17, none, [143, 2, 1, 3130, 0], .null, [])),
  (17, (.aload_n 0, 18, none, [0], .null, [])),
  (18, (.getfield 27, 21, none, [6, 3, 2, 1196], .null, [])),
  (21, (.getfield 136, 24, none, [0, 3, 1, 1096], .null, [])),
  (24, (.iload_n 1, 25, none, [1], .null, [])),
  (25, (.invokestatic 94, 28, none, [35, 2, 1, 2139, 0], .null, [])),
  (28, (.isub, 29, none, [], .null, [])),
  (29, (.ireturn, 30, none, [0], .null, []))]
def qm_145 : qM := (((⟨"PlushFlocks", "nap", "(I)I"⟩ : MethodName), prog_1_method_32_code, 2, (Option.some Jvm.ClassFile.FieldType.int)), ("PlushFlocks", 6, 1), [3142, 1001, 3141, 23, 2], qc_145)
/-- 146: PlushFlocks.damask(I)I -/
def qc_146 : List (Nat × qI) := [(0, (.aload_n 0, 1, none, [0], .null, [])),
  (1, (.dup, 2, none, [], .null, [])),
  (2, (.getfield 62, 5, none, [6, 10, 1, 1203], .null, [])),
  (5, (.ldc2_w 274, 8, none, [3148], .long 1000, [])),
  (8, (.ladd, 9, none, [], .null, [])),
  (9, (.putfield 62, 12, none, [6, 10, 1, 1203], .null, [])),
  (12, (.iconst 2, 13, none, [], .int 2, [])),
  (13, (.aload_n 0, 14, none, [0], .null, [])),
  (14, (.iload_n 1, 15, none, [1], .null, [])),
  (15, (.invokevirtual 248, 18, none, [144, 2, 1, 3134, 0], .null, [])),
  (18, (.imul, 19, none, [], .null, [])),
  (19, (.ireturn, 20, none, [0], .null, []))]
def qm_146 : qM := (((⟨"PlushFlocks", "damask", "(I)I"⟩ : MethodName), prog_1_method_33_code, 2, (Option.some Jvm.ClassFile.FieldType.int)), ("PlushFlocks", 6, 1), [3147, 1001, 3146, 24, 2], qc_146)
/-- 147: PlushFlocks.velvet(I)I -/
def qc_147 : List (Nat × qI) := [(0, (.aload_n 0, 1, none, [0], .null, [])),
  (1, (.dup, 2, none, [], .null, [])),
  (2, (.getfield 62, 5, none, [6, 10, 1, 1203], .null, [])),
  (5, (.ldc2_w 276, 8, none, [3153], .long 10000, [])),
  (8, (.ladd, 9, none, [], .null, [])),
  (9, (.putfield 62, 12, none, [6, 10, 1, 1203], .null, [])),
  (12, (.aload_n 0, 13, none, [0], .null, [])),
  (13, (.iload_n 1, 14, none, [1], .null, [])),
  (14, (.invokevirtual 251, 17, none, [145, 2, 1, 3139, 0], .null, [])),
  (17, (.iload_n 1, 18, none, [1], .null, [])),
  (18, (.iadd, 19, none, [], .null, [])),
  (19, (.ireturn, 20, none, [0], .null, []))]
def qm_147 : qM := (((⟨"PlushFlocks", "velvet", "(I)I"⟩ : MethodName), prog_1_method_34_code, 2, (Option.some Jvm.ClassFile.FieldType.int)), ("PlushFlocks", 6, 1), [3152, 1001, 3151, 25, 2], qc_147)
/-- 148: PlushFlocks.fringe(I)I -/
def qc_148 : List (Nat × qI) := [(0, (.aload_n 0, 1, none, [0], .null, [])),
  (1, (.dup, 2, none, [], .null, [])),
  (2, (.getfield 62, 5, none, [6, 10, 1, 1203], .null, [])),
  (5, (.ldc2_w 278, 8, none, [3158], .long 100000, [])),
  (8, (.ladd, 9, none, [], .null, [])),
  (9, (.putfield 62, 12, none, [6, 10, 1, 1203], .null, [])),
  (12, (.aload_n 0, 13, none, [0], .null, [])),
  (13, (.iload_n 1, 14, none, [1], .null, [])),
  (14, (.invokevirtual 245, 17, none, [143, 2, 1, 3130, 0], .null, [])),
  (17, (.aload_n 0, 18, none, [0], .null, [])),
  (18, (.getfield 27, 21, none, [6, 3, 2, 1196], .null, [])),
  (21, (.getfield 139, 24, none, [0, 5, 0, 1101], .null, [])),
  (24, (.iadd, 25, none, [], .null, [])),
  (25, (.ireturn, 26, none, [0], .null, []))]
def qm_148 : qM := (((⟨"PlushFlocks", "fringe", "(I)I"⟩ : MethodName), prog_1_method_35_code, 2, (Option.some Jvm.ClassFile.FieldType.int)), ("PlushFlocks", 6, 1), [3157, 1001, 3156, 26, 2], qc_148)
/-- 149: PlushFlocks.rate(II)I -/
def qc_149 : List (Nat × qI) := [(0, (.aload_n 0, 1, none, [0], .null, [])),
  (1, (.getfield 20, 4, none, [6, 2, 2, 1195], .null, [])),
  (4, (.iload_n 2, 5, none, [2], .null, [])),
  (5, (.invokevirtual 118, 8, none, [71, 2, 1, 2192, 0], .null, [])),
  (8, (.ifCond .ne 6, 11, none, [14], .null, [])),
  (11, (.ldc 244, 13, none, [3129], .int (-1000000), [])),
  (13, (.ireturn, 14, none, [0], .null, [])),
  (14, (.iload_n 1, 15, none, [1], .null, [])),
  (15, (.tableswitch 73 0 5 #[37, 43, 49, 55, 61, 67], 52, none, [88], .null, [(0, 52), (1, 58), (2, 64), (3, 70), (4, 76), (5, 82)])),
  (52, (.aload_n 0, 53, none, [0], .null, [])),
  (53, (.iload_n 2, 54, none, [2], .null, [])),
  (54, (.invokevirtual 245, 57, none, [143, 2, 1, 3130, 0], .null, [])),
  (57, (.ireturn, 58, none, [0], .null, [])),
  (58, (.aload_n 0, 59, none, [0], .null, [])),
  (59, (.iload_n 2, 60, none, [2], .null, [])),
  (60, (.invokevirtual 248, 63, none, [144, 2, 1, 3134, 0], .null, [])),
  (63, (.ireturn, 64, none, [0], .null, [])),
  (64, (.aload_n 0, 65, none, [0], .null, [])),
  (65, (.iload_n 2, 66, none, [2], .null, [])),
  (66, (.invokevirtual 251, 69, none, [145, 2, 1, 3139, 0], .null, [])),
  (69, (.ireturn, 70, none, [0], .null, [])),
  (70, (.aload_n 0, 71, none, [0], .null, [])),
  (71, (.iload_n 2, 72, none, [2], .null, [])),
  (72, (.invokevirtual 254, 75, none, [146, 2, 1, 3144, 0], .null, [])),
  (75, (.ireturn, 76, none, [0], .null, [])),
  (76, (.aload_n 0, 77, none, [0], .null, [])),
  (77, (.iload_n 2, 78, none, [2], .null, [])),
  (78, (.invokevirtual 257, 81, none, [147, 2, 1, 3149, 0], .null, [])),
  (81, (.ireturn, 82, none, [0], .null, [])),
  (82, (.aload_n 0, 83, none, [0], .null, [])),
  (83, (.iload_n 2, 84, none, [2], .null, [])),
  (84, (.invokevirtual 260, 87, none, [148, 2, 1, 3154, 0], .null, [])),
  (87, (.ireturn, 88, none, [0], .null, [])),
  (88, (.ldc 244, 90, none, [3129], .int (-1000000), [])),
  (90, (.ireturn, 91, none, [0], .null, []))]
def qm_149 : qM := (((⟨"PlushFlocks", "rate", "(II)I"⟩ : MethodName), prog_1_method_25_code, 3, (Option.some Jvm.ClassFile.FieldType.int)), ("PlushFlocks", 6, 1), [3128, 1001, 3126, 3127, 3], qc_149)
/-- 150: PlushFlocksModel.rate(II)I -/
def qc_150 : List (Nat × qI) := [(0, (.iload_n 1, 1, none, [1], .null, [])),
  (1, (.iconst 0, 2, none, [], .int 0, [])),
  (2, (.iconst 5, 3, none, [], .int 5, [])),
  (3, (.invokestatic 52, 6, none, [8, 3, 1, 3200, 0], .null, [])),
  (6, (.ifCond .eq 11, 9, none, [17], .null, [])),
  (9, (.aload_n 0, 10, none, [0], .null, [])),
  (10, (.iload_n 2, 11, none, [2], .null, [])),
  (11, (.invokevirtual 134, 14, none, [73, 2, 1, 4096, 0], .null, [])),
  (14, (.ifCond .ne 6, 17, none, [20], .null, [])),
  (17, (.ldc 166, 19, some [], [4199], .int (-1000000), [])),
  (19, (.ireturn, 20, none, [0], .null, [])),
  (20, (.aload_n 0, 21, none, [0], .null, [])),
  (21, (.dup, 22, none, [], .null, [])),
  (22, (.getfield 167, 25, none, [7, 0, 1, 3223], .null, [])),
  (25, (.iload_n 1, 26, none, [1], .null, [])),
  (26, (.ifCond .ne 7, 29, none, [33], .null, [])),
  (29, (.lconst 1, 30, none, [], .long 1, [])),
  (30, (.goto 50, 33, none, [80], .null, [])),
  (33, (.iload_n 1, 34, none, [1], .null, [])),
  (34, (.iconst 1, 35, none, [], .int 1, [])),
  (35, (.if_icmp .ne 9, 38, none, [44], .null, [])),
  (38, (.ldc2_w 171, 41, none, [4200], .long 11, [])),
  (41, (.goto 39, 44, none, [80], .null, [])),
  (44, (.iload_n 1, 45, none, [1], .null, [])),
  (45, (.iconst 2, 46, none, [], .int 2, [])),
  (46, (.if_icmp .ne 9, 49, none, [55], .null, [])),
  (49, (.ldc2_w 173, 52, none, [4201], .long 101, [])),
  (52, (.goto 28, 55, none, [80], .null, [])),
  (55, (.iload_n 1, 56, none, [1], .null, [])),
  (56, (.iconst 3, 57, none, [], .int 3, [])),
  (57, (.if_icmp .ne 9, 60, none, [66], .null, [])),
  (60, (.ldc2_w 175, 63, none, [4202], .long 1011, [])),
  (63, (.goto 17, 66, none, [80], .null, [])),
  (66, (.iload_n 1, 67, none, [1], .null, [])),
  (67, (.iconst 4, 68, none, [], .int 4, [])),
  (68, (.if_icmp .ne 9, 71, none, [77], .null, [])),
  (71, (.ldc2_w 177, 74, none, [4203], .long 10101, [])),
  (74, (.goto 6, 77, none, [80], .null, [])),
  (77, (.ldc2_w 179, 80, none, [4204], .long 100001, [])),
  (80, (.ladd, 81, some [0, 1, 2], [], .null, [])),
  (81, (.putfield 167, 84, none, [7, 0, 1, 3223], .null, [])),
  (84, (.aload_n 0, 85, none, [0], .null, [])),
  (85, (.getfield 13, 88, none, [7, 3, 2, 3226], .null, [])),
  (88, (.bipush 25, 90, none, [], .int 25, [])),
  (90, (.iload_n 2, 91, none, [2], .null, [])),
  (91, (.iadd, 92, none, [], .null, [])),
  (92, (.iaload, 93, none, [1], .null, [])),
  (93, (.istore_n 3, 94, none, [3], .null, [])),
  (94, (.iload_n 3, 95, none, [3], .null, [])),
  (95, (.aload_n 0, 96, none, [0], .null, [])),
  (96, (.getfield 19, 99, none, [7, 5, 2, 3228], .null, [])),
  (99, (.bipush 15, 101, none, [], .int 15, [])),
  (101, (.aload_n 0, 102, none, [0], .null, [])),
  (102, (.getfield 19, 105, none, [7, 5, 2, 3228], .null, [])),
  (105, (.iload_n 2, 106, none, [2], .null, [])),
  (106, (.iaload, 107, none, [1], .null, [])),
  (107, (.iadd, 108, none, [], .null, [])),
  (108, (.iaload, 109, none, [1], .null, [])),
  (109, (.iadd, 110, none, [], .null, [])),
  (110, (.istore 4, 112, none, [4], .null, [])),
  (112, (.iload_n 3, 113, none, [3], .null, [])),
  (113, (.aload_n 0, 114, none, [0], .null, [])),
  (114, (.getfield 19, 117, none, [7, 5, 2, 3228], .null, [])),
  (117, (.bipush 10, 119, none, [], .int 10, [])),
  (119, (.iload_n 2, 120, none, [2], .null, [])),
  (120, (.iadd, 121, none, [], .null, [])),
  (121, (.iaload, 122, none, [1], .null, [])),
  (122, (.isub, 123, none, [], .null, [])),
  (123, (.istore 5, 125, none, [5], .null, [])),
  (125, (.iload_n 1, 126, none, [1], .null, [])),
  (126, (.ifCond .ne 7, 129, none, [133], .null, [])),
  (129, (.iload_n 3, 130, none, [3], .null, [])),
  (130, (.goto 56, 133, none, [186], .null, [])),
  (133, (.iload_n 1, 134, none, [1], .null, [])),
  (134, (.iconst 1, 135, none, [], .int 1, [])),
  (135, (.if_icmp .ne 8, 138, none, [143], .null, [])),
  (138, (.iload 4, 140, none, [4], .null, [])),
  (140, (.goto 46, 143, none, [186], .null, [])),
  (143, (.iload_n 1, 144, none, [1], .null, [])),
  (144, (.iconst 2, 145, none, [], .int 2, [])),
  (145, (.if_icmp .ne 8, 148, none, [153], .null, [])),
  (148, (.iload 5, 150, none, [5], .null, [])),
  (150, (.goto 36, 153, none, [186], .null, [])),
  (153, (.iload_n 1, 154, none, [1], .null, [])),
  (154, (.iconst 3, 155, none, [], .int 3, [])),
  (155, (.if_icmp .ne 10, 158, none, [165], .null, [])),
  (158, (.iconst 2, 159, none, [], .int 2, [])),
  (159, (.iload 4, 161, none, [4], .null, [])),
  (161, (.imul, 162, none, [], .null, [])),
  (162, (.goto 24, 165, none, [186], .null, [])),
  (165, (.iload_n 1, 166, none, [1], .null, [])),
  (166, (.iconst 4, 167, none, [], .int 4, [])),
  (167, (.if_icmp .ne 10, 170, none, [177], .null, [])),
  (170, (.iload 5, 172, none, [5], .null, [])),
  (172, (.iload_n 2, 173, none, [2], .null, [])),
  (173, (.iadd, 174, none, [], .null, [])),
  (174, (.goto 12, 177, none, [186], .null, [])),
  (177, (.iload_n 3, 178, none, [3], .null, [])),
  (178, (.aload_n 0, 179, none, [0], .null, [])),
  (179, (.getfield 19, 182, none, [7, 5, 2, 3228], .null, [])),
  (182, (.bipush 21, 184, none, [], .int 21, [])),
  (184, (.iaload, 185, none, [1], .null, [])),
  (185, (.iadd, 186, none, [], .null, [])),
  (186, (.ireturn, 187, some [], [0], .null, []))]
def qm_150 : qM := (((⟨"PlushFlocksModel", "rate", "(II)I"⟩ : MethodName), prog_9_method_53_code, 6, (Option.some Jvm.ClassFile.FieldType.int)), ("PlushFlocksModel", 7, 1), [4198, 1007, 4196, 4197, 3], qc_150)
/-- 151: PlushFlocks.keep(I)I -/
def qc_151 : List (Nat × qI) := [(0, (.aload_n 0, 1, none, [0], .null, [])),
  (1, (.getfield 41, 4, none, [6, 6, 2, 1199], .null, [])),
  (4, (.iload_n 1, 5, none, [1], .null, [])),
  (5, (.invokestatic 263, 8, none, [80, 2, 3, 3163, 0], .null, [])),
  (8, (.astore_n 2, 9, none, [2], .null, [])),
  (9, (.aload_n 2, 10, none, [2], .null, [])),
  (10, (.ifnonnull 5, 13, none, [15], .null, [])),
  (13, (.iconst (-1), 14, none, [], .int (-1), [])),
  (14, (.ireturn, 15, none, [0], .null, [])),
  (15, (.aload_n 2, 16, none, [2], .null, [])),
  (16, (.aload_n 0, 17, none, [0], .null, [])),
  (17, (.getfield 27, 20, none, [6, 3, 2, 1196], .null, [])),
  (20, (.invokevirtual 152, 23, none, [51, 2, 0, 2151, 0], .null, [])),
  (23, (.aload_n 0, 24, none, [0], .null, [])),
  (24, (.dup, 25, none, [], .null, [])),
  (25, (.getfield 45, 28, none, [6, 7, 0, 1200], .null, [])),
  (28, (.iconst 1, 29, none, [], .int 1, [])),
  (29, (.iload_n 1, 30, none, [1], .null, [])),
  (30, (.ishl, 31, none, [], .null, [])),
  (31, (.ior, 32, none, [], .null, [])),
  (32, (.putfield 45, 35, none, [6, 7, 0, 1200], .null, [])),
  (35, (.aload_n 0, 36, none, [0], .null, [])),
  (36, (.getfield 27, 39, none, [6, 3, 2, 1196], .null, [])),
  (39, (.getfield 139, 42, none, [0, 5, 0, 1101], .null, [])),
  (42, (.ireturn, 43, none, [0], .null, []))]
def qm_151 : qM := (((⟨"PlushFlocks", "keep", "(I)I"⟩ : MethodName), prog_1_method_26_code, 3, (Option.some Jvm.ClassFile.FieldType.int)), ("PlushFlocks", 6, 1), [3162, 1001, 3160, 3161, 2], qc_151)
/-- 152: PlushFlocksModel.keep(I)I -/
def qc_152 : List (Nat × qI) := [(0, (.iload_n 1, 1, none, [1], .null, [])),
  (1, (.iconst 0, 2, none, [], .int 0, [])),
  (2, (.iconst 1, 3, none, [], .int 1, [])),
  (3, (.invokestatic 52, 6, none, [8, 3, 1, 3200, 0], .null, [])),
  (6, (.ifCond .ne 5, 9, none, [11], .null, [])),
  (9, (.iconst (-1), 10, none, [], .int (-1), [])),
  (10, (.ireturn, 11, none, [0], .null, [])),
  (11, (.iconst 0, 12, none, [], .int 0, [])),
  (12, (.istore_n 2, 13, none, [2], .null, [])),
  (13, (.iload_n 2, 14, some [0, 1, 2], [2], .null, [])),
  (14, (.bipush 22, 16, none, [], .int 22, [])),
  (16, (.if_icmp .ge 26, 19, none, [42], .null, [])),
  (19, (.aload_n 0, 20, none, [0], .null, [])),
  (20, (.getfield 25, 23, none, [7, 8, 2, 3231], .null, [])),
  (23, (.bipush 22, 25, none, [], .int 22, [])),
  (25, (.iload_n 1, 26, none, [1], .null, [])),
  (26, (.imul, 27, none, [], .null, [])),
  (27, (.iload_n 2, 28, none, [2], .null, [])),
  (28, (.iadd, 29, none, [], .null, [])),
  (29, (.aload_n 0, 30, none, [0], .null, [])),
  (30, (.getfield 19, 33, none, [7, 5, 2, 3228], .null, [])),
  (33, (.iload_n 2, 34, none, [2], .null, [])),
  (34, (.iaload, 35, none, [1], .null, [])),
  (35, (.iastore, 36, none, [], .null, [])),
  (36, (.iinc 2 1, 39, none, [2], .int 1, [])),
  (39, (.goto (-26), 42, none, [13], .null, [])),
  (42, (.aload_n 0, 43, none, [0], .null, [])),
  (43, (.getfield 28, 46, none, [7, 9, 2, 3232], .null, [])),
  (46, (.iload_n 1, 47, none, [1], .null, [])),
  (47, (.iconst 1, 48, none, [], .int 1, [])),
  (48, (.bastore, 49, none, [], .null, [])),
  (49, (.aload_n 0, 50, none, [0], .null, [])),
  (50, (.getfield 19, 53, none, [7, 5, 2, 3228], .null, [])),
  (53, (.bipush 21, 55, none, [], .int 21, [])),
  (55, (.iaload, 56, none, [1], .null, [])),
  (56, (.ireturn, 57, none, [0], .null, []))]
def qm_152 : qM := (((⟨"PlushFlocksModel", "keep", "(I)I"⟩ : MethodName), prog_9_method_54_code, 3, (Option.some Jvm.ClassFile.FieldType.int)), ("PlushFlocksModel", 7, 1), [4208, 1007, 4206, 4207, 2], qc_152)
/-- 153: PlushFlocks.again(I)I -/
def qc_153 : List (Nat × qI) := [(0, (.aload_n 0, 1, none, [0], .null, [])),
  (1, (.getfield 41, 4, none, [6, 6, 2, 1199], .null, [])),
  (4, (.iload_n 1, 5, none, [1], .null, [])),
  (5, (.invokestatic 263, 8, none, [80, 2, 3, 3163, 0], .null, [])),
  (8, (.astore_n 2, 9, none, [2], .null, [])),
  (9, (.aload_n 2, 10, none, [2], .null, [])),
  (10, (.ifnonnull 5, 13, none, [15], .null, [])),
  (13, (.iconst (-1), 14, none, [], .int (-1), [])),
  (14, (.ireturn, 15, none, [0], .null, [])),
  (15, (.aload_n 0, 16, none, [0], .null, [])),
  (16, (.getfield 45, 19, none, [6, 7, 0, 1200], .null, [])),
  (19, (.iload_n 1, 20, none, [1], .null, [])),
  (20, (.invokestatic 166, 23, none, [52, 2, 1, 2186, 0], .null, [])),
  (23, (.ifCond .ne 6, 26, none, [29], .null, [])),
  (26, (.bipush (-2), 28, none, [], .int (-2), [])),
  (28, (.ireturn, 29, none, [0], .null, [])),
  (29, (.aload_n 0, 30, none, [0], .null, [])),
  (30, (.getfield 27, 33, none, [6, 3, 2, 1196], .null, [])),
  (33, (.aload_n 2, 34, none, [2], .null, [])),
  (34, (.invokevirtual 152, 37, none, [51, 2, 0, 2151, 0], .null, [])),
  (37, (.aload_n 0, 38, none, [0], .null, [])),
  (38, (.getfield 37, 41, none, [6, 5, 2, 1198], .null, [])),
  (41, (.invokevirtual 80, 44, none, [45, 1, 0, 2126, 0], .null, [])),
  (44, (.aload_n 0, 45, none, [0], .null, [])),
  (45, (.getfield 27, 48, none, [6, 3, 2, 1196], .null, [])),
  (48, (.getfield 139, 51, none, [0, 5, 0, 1101], .null, [])),
  (51, (.ireturn, 52, none, [0], .null, []))]
def qm_153 : qM := (((⟨"PlushFlocks", "again", "(I)I"⟩ : MethodName), prog_1_method_27_code, 3, (Option.some Jvm.ClassFile.FieldType.int)), ("PlushFlocks", 6, 1), [3167, 1001, 3165, 3166, 2], qc_153)
/-- 154: PlushFlocksModel.again(I)I -/
def qc_154 : List (Nat × qI) := [(0, (.iload_n 1, 1, none, [1], .null, [])),
  (1, (.iconst 0, 2, none, [], .int 0, [])),
  (2, (.iconst 1, 3, none, [], .int 1, [])),
  (3, (.invokestatic 52, 6, none, [8, 3, 1, 3200, 0], .null, [])),
  (6, (.ifCond .ne 5, 9, none, [11], .null, [])),
  (9, (.iconst (-1), 10, none, [], .int (-1), [])),
  (10, (.ireturn, 11, none, [0], .null, [])),
  (11, (.aload_n 0, 12, none, [0], .null, [])),
  (12, (.getfield 28, 15, none, [7, 9, 2, 3232], .null, [])),
  (15, (.iload_n 1, 16, none, [1], .null, [])),
  (16, (.baload, 17, none, [], .null, [])),
  (17, (.ifCond .ne 6, 20, none, [23], .null, [])),
  (20, (.bipush (-2), 22, none, [], .int (-2), [])),
  (22, (.ireturn, 23, none, [0], .null, [])),
  (23, (.iconst 0, 24, none, [], .int 0, [])),
  (24, (.istore_n 2, 25, none, [2], .null, [])),
  (25, (.iload_n 2, 26, some [0, 1, 2], [2], .null, [])),
  (26, (.bipush 22, 28, none, [], .int 22, [])),
  (28, (.if_icmp .ge 26, 31, none, [54], .null, [])),
  (31, (.aload_n 0, 32, none, [0], .null, [])),
  (32, (.getfield 19, 35, none, [7, 5, 2, 3228], .null, [])),
  (35, (.iload_n 2, 36, none, [2], .null, [])),
  (36, (.aload_n 0, 37, none, [0], .null, [])),
  (37, (.getfield 25, 40, none, [7, 8, 2, 3231], .null, [])),
  (40, (.bipush 22, 42, none, [], .int 22, [])),
  (42, (.iload_n 1, 43, none, [1], .null, [])),
  (43, (.imul, 44, none, [], .null, [])),
  (44, (.iload_n 2, 45, none, [2], .null, [])),
  (45, (.iadd, 46, none, [], .null, [])),
  (46, (.iaload, 47, none, [1], .null, [])),
  (47, (.iastore, 48, none, [], .null, [])),
  (48, (.iinc 2 1, 51, none, [2], .int 1, [])),
  (51, (.goto (-26), 54, none, [25], .null, [])),
  (54, (.aload_n 0, 55, none, [0], .null, [])),
  (55, (.iconst 0, 56, none, [], .int 0, [])),
  (56, (.putfield 99, 59, none, [7, 7, 0, 3230], .null, [])),
  (59, (.aload_n 0, 60, none, [0], .null, [])),
  (60, (.getfield 19, 63, none, [7, 5, 2, 3228], .null, [])),
  (63, (.bipush 21, 65, none, [], .int 21, [])),
  (65, (.iaload, 66, none, [1], .null, [])),
  (66, (.ireturn, 67, none, [0], .null, []))]
def qm_154 : qM := (((⟨"PlushFlocksModel", "again", "(I)I"⟩ : MethodName), prog_9_method_55_code, 3, (Option.some Jvm.ClassFile.FieldType.int)), ("PlushFlocksModel", 7, 1), [4212, 1007, 4210, 4211, 2], qc_154)
/-- 155: PlushFlocks.count(I)I -/
def qc_155 : List (Nat × qI) := [(0, (.iload_n 1, 1, none, [1], .null, [])),
  (1, (.tableswitch 72 0 4 #[35, 43, 51, 59, 67], 36, none, [73], .null, [(0, 36), (1, 44), (2, 52), (3, 60), (4, 68)])),
  (36, (.aload_n 0, 37, none, [0], .null, [])),
  (37, (.getfield 20, 40, none, [6, 2, 2, 1195], .null, [])),
  (40, (.getfield 196, 43, none, [3, 0, 0, 1030], .null, [])),
  (43, (.ireturn, 44, none, [0], .null, [])),
  (44, (.aload_n 0, 45, none, [0], .null, [])),
  (45, (.getfield 20, 48, none, [6, 2, 2, 1195], .null, [])),
  (48, (.getfield 207, 51, none, [3, 1, 0, 1036], .null, [])),
  (51, (.ireturn, 52, none, [0], .null, [])),
  (52, (.aload_n 0, 53, none, [0], .null, [])),
  (53, (.getfield 20, 56, none, [6, 2, 2, 1195], .null, [])),
  (56, (.getfield 267, 59, none, [3, 2, 0, 1039], .null, [])),
  (59, (.ireturn, 60, none, [0], .null, [])),
  (60, (.aload_n 0, 61, none, [0], .null, [])),
  (61, (.getfield 51, 64, none, [6, 8, 2, 1201], .null, [])),
  (64, (.getfield 226, 67, none, [1, 3, 0, 1145], .null, [])),
  (67, (.ireturn, 68, none, [0], .null, [])),
  (68, (.aload_n 0, 69, none, [0], .null, [])),
  (69, (.getfield 13, 72, none, [6, 1, 0, 1194], .null, [])),
  (72, (.ireturn, 73, none, [0], .null, [])),
  (73, (.iconst (-1), 74, none, [], .int (-1), [])),
  (74, (.ireturn, 75, none, [0], .null, []))]
def qm_155 : qM := (((⟨"PlushFlocks", "count", "(I)I"⟩ : MethodName), prog_1_method_28_code, 2, (Option.some Jvm.ClassFile.FieldType.int)), ("PlushFlocks", 6, 1), [3171, 1001, 3169, 3170, 2], qc_155)
/-- 156: PlushFlocksModel.count(I)I -/
def qc_156 : List (Nat × qI) := [(0, (.iload_n 1, 1, none, [1], .null, [])),
  (1, (.tableswitch 66 0 4 #[35, 42, 49, 56, 61], 36, none, [67], .null, [(0, 36), (1, 43), (2, 50), (3, 57), (4, 62)])),
  (36, (.aload_n 0, 37, none, [0], .null, [])),
  (37, (.getfield 13, 40, none, [7, 3, 2, 3226], .null, [])),
  (40, (.iconst 0, 41, none, [], .int 0, [])),
  (41, (.iaload, 42, none, [1], .null, [])),
  (42, (.ireturn, 43, none, [0], .null, [])),
  (43, (.aload_n 0, 44, none, [0], .null, [])),
  (44, (.getfield 13, 47, none, [7, 3, 2, 3226], .null, [])),
  (47, (.iconst 1, 48, none, [], .int 1, [])),
  (48, (.iaload, 49, none, [1], .null, [])),
  (49, (.ireturn, 50, none, [0], .null, [])),
  (50, (.aload_n 0, 51, none, [0], .null, [])),
  (51, (.getfield 13, 54, none, [7, 3, 2, 3226], .null, [])),
  (54, (.iconst 2, 55, none, [], .int 2, [])),
  (55, (.iaload, 56, none, [1], .null, [])),
  (56, (.ireturn, 57, none, [0], .null, [])),
  (57, (.aload_n 0, 58, none, [0], .null, [])),
  (58, (.getfield 102, 61, none, [7, 11, 0, 3234], .null, [])),
  (61, (.ireturn, 62, none, [0], .null, [])),
  (62, (.aload_n 0, 63, none, [0], .null, [])),
  (63, (.getfield 56, 66, none, [7, 2, 0, 3225], .null, [])),
  (66, (.ireturn, 67, none, [0], .null, [])),
  (67, (.iconst (-1), 68, none, [], .int (-1), [])),
  (68, (.ireturn, 69, none, [0], .null, []))]
def qm_156 : qM := (((⟨"PlushFlocksModel", "count", "(I)I"⟩ : MethodName), prog_9_method_56_code, 2, (Option.some Jvm.ClassFile.FieldType.int)), ("PlushFlocksModel", 7, 1), [4216, 1007, 4214, 4215, 2], qc_156)
/-- 157: PlushFlocks.trace()J -/
def qc_157 : List (Nat × qI) := [(0, (.aload_n 0, 1, none, [0], .null, [])),
  (1, (.getfield 62, 4, none, [6, 10, 1, 1203], .null, [])),
  (4, (.lreturn, 5, none, [], .null, []))]
def qm_157 : qM := (((⟨"PlushFlocks", "trace", "()J"⟩ : MethodName), prog_1_method_29_code, 1, (Option.some Jvm.ClassFile.FieldType.long)), ("PlushFlocks", 6, 1), [3175, 1001, 3173, 3174, 1], qc_157)
/-- 158: PlushFlocksModel.trace()J -/
def qc_158 : List (Nat × qI) := [(0, (.aload_n 0, 1, none, [0], .null, [])),
  (1, (.getfield 167, 4, none, [7, 0, 1, 3223], .null, [])),
  (4, (.lreturn, 5, none, [], .null, []))]
def qm_158 : qM := (((⟨"PlushFlocksModel", "trace", "()J"⟩ : MethodName), prog_9_method_57_code, 1, (Option.some Jvm.ClassFile.FieldType.long)), ("PlushFlocksModel", 7, 1), [4220, 1007, 4218, 4219, 1], qc_158)
/-- 159: PlushFlocksLaw.law([I)Z -/
def qc_159 : List (Nat × qI) := [(0, (.new 7, 3, none, [6, 11, 1012, 1013, 1001], .null, [])),
  (3, (.dup, 4, none, [], .null, [])),
  (4, (.invokespecial 9, 7, none, [5, 1, 0, 1014, 0], .null, [])),
  (7, (.astore_n 1, 8, none, [1], .null, [])),
  (8, (.new 10, 11, none, [7, 19, 3176, 3177, 1007], .null, [])),
  (11, (.dup, 12, none, [], .null, [])),
  (12, (.invokespecial 12, 15, none, [17, 1, 0, 3178, 0], .null, [])),
  (15, (.astore_n 2, 16, none, [2], .null, [])),
  (16, (.iconst 0, 17, none, [], .int 0, [])),
  (17, (.istore_n 3, 18, none, [3], .null, [])),
  (18, (.iload_n 3, 19, some [0, 1, 2, 3], [3], .null, [])),
  (19, (.aload_n 0, 20, none, [0], .null, [])),
  (20, (.arraylength, 21, none, [9], .null, [])),
  (21, (.iconst 4, 22, none, [], .int 4, [])),
  (22, (.isub, 23, none, [], .null, [])),
  (23, (.if_icmp .gt 687, 26, none, [710], .null, [])),
  (26, (.aload_n 0, 27, none, [0], .null, [])),
  (27, (.iload_n 3, 28, none, [3], .null, [])),
  (28, (.iaload, 29, none, [9], .null, [])),
  (29, (.bipush 31, 31, none, [], .int 31, [])),
  (31, (.iand, 32, none, [], .null, [])),
  (32, (.tableswitch 672 0 24 #[116, 139, 152, 165, 198, 231, 254, 267, 300, 323, 346, 359, 372, 395, 408, 431, 474, 507, 520, 543, 556, 589, 612, 635, 658], 148, none, [704], .null, [(0, 148), (1, 171), (2, 184), (3, 197), (4, 230), (5, 263), (6, 286), (7, 299), (8, 332), (9, 355), (10, 378), (11, 391), (12, 404), (13, 427), (14, 440), (15, 463), (16, 506), (17, 539), (18, 552), (19, 575), (20, 588), (21, 621), (22, 644), (23, 667), (24, 690)])),
  (148, (.aload_n 1, 149, none, [1], .null, [])),
  (149, (.aload_n 0, 150, none, [0], .null, [])),
  (150, (.iload_n 3, 151, none, [3], .null, [])),
  (151, (.iconst 1, 152, none, [], .int 1, [])),
  (152, (.iadd, 153, none, [], .null, [])),
  (153, (.iaload, 154, none, [9], .null, [])),
  (154, (.invokevirtual 13, 157, none, [18, 2, 1, 1227, 0], .null, [])),
  (157, (.aload_n 2, 158, none, [2], .null, [])),
  (158, (.aload_n 0, 159, none, [0], .null, [])),
  (159, (.iload_n 3, 160, none, [3], .null, [])),
  (160, (.iconst 1, 161, none, [], .int 1, [])),
  (161, (.iadd, 162, none, [], .null, [])),
  (162, (.iaload, 163, none, [9], .null, [])),
  (163, (.invokevirtual 17, 166, none, [19, 2, 1, 4042, 0], .null, [])),
  (166, (.if_icmp .eq 538, 169, none, [704], .null, [])),
  (169, (.iconst 0, 170, none, [], .int 0, [])),
  (170, (.ireturn, 171, none, [4], .null, [])),
  (171, (.aload_n 1, 172, none, [1], .null, [])),
  (172, (.invokevirtual 18, 175, none, [20, 1, 1, 1231, 0], .null, [])),
  (175, (.aload_n 2, 176, none, [2], .null, [])),
  (176, (.invokevirtual 22, 179, none, [21, 1, 1, 4046, 0], .null, [])),
  (179, (.if_icmp .eq 525, 182, none, [704], .null, [])),
  (182, (.iconst 0, 183, none, [], .int 0, [])),
  (183, (.ireturn, 184, none, [4], .null, [])),
  (184, (.aload_n 1, 185, none, [1], .null, [])),
  (185, (.invokevirtual 23, 188, none, [47, 1, 1, 1235, 0], .null, [])),
  (188, (.aload_n 2, 189, none, [2], .null, [])),
  (189, (.invokevirtual 26, 192, none, [48, 1, 1, 4050, 0], .null, [])),
  (192, (.if_icmp .eq 512, 195, none, [704], .null, [])),
  (195, (.iconst 0, 196, none, [], .int 0, [])),
  (196, (.ireturn, 197, none, [4], .null, [])),
  (197, (.aload_n 1, 198, none, [1], .null, [])),
  (198, (.aload_n 0, 199, none, [0], .null, [])),
  (199, (.iload_n 3, 200, none, [3], .null, [])),
  (200, (.iconst 1, 201, none, [], .int 1, [])),
  (201, (.iadd, 202, none, [], .null, [])),
  (202, (.iaload, 203, none, [9], .null, [])),
  (203, (.aload_n 0, 204, none, [0], .null, [])),
  (204, (.iload_n 3, 205, none, [3], .null, [])),
  (205, (.iconst 2, 206, none, [], .int 2, [])),
  (206, (.iadd, 207, none, [], .null, [])),
  (207, (.iaload, 208, none, [9], .null, [])),
  (208, (.invokevirtual 27, 211, none, [60, 3, 1, 2134, 0], .null, [])),
  (211, (.aload_n 2, 212, none, [2], .null, [])),
  (212, (.aload_n 0, 213, none, [0], .null, [])),
  (213, (.iload_n 3, 214, none, [3], .null, [])),
  (214, (.iconst 1, 215, none, [], .int 1, [])),
  (215, (.iadd, 216, none, [], .null, [])),
  (216, (.iaload, 217, none, [9], .null, [])),
  (217, (.aload_n 0, 218, none, [0], .null, [])),
  (218, (.iload_n 3, 219, none, [3], .null, [])),
  (219, (.iconst 2, 220, none, [], .int 2, [])),
  (220, (.iadd, 221, none, [], .null, [])),
  (221, (.iaload, 222, none, [9], .null, [])),
  (222, (.invokevirtual 31, 225, none, [70, 3, 1, 4054, 0], .null, [])),
  (225, (.if_icmp .eq 479, 228, none, [704], .null, [])),
  (228, (.iconst 0, 229, none, [], .int 0, [])),
  (229, (.ireturn, 230, none, [4], .null, [])),
  (230, (.aload_n 1, 231, none, [1], .null, [])),
  (231, (.aload_n 0, 232, none, [0], .null, [])),
  (232, (.iload_n 3, 233, none, [3], .null, [])),
  (233, (.iconst 1, 234, none, [], .int 1, [])),
  (234, (.iadd, 235, none, [], .null, [])),
  (235, (.iaload, 236, none, [9], .null, [])),
  (236, (.aload_n 0, 237, none, [0], .null, [])),
  (237, (.iload_n 3, 238, none, [3], .null, [])),
  (238, (.iconst 2, 239, none, [], .int 2, [])),
  (239, (.iadd, 240, none, [], .null, [])),
  (240, (.iaload, 241, none, [9], .null, [])),
  (241, (.invokevirtual 32, 244, none, [72, 3, 1, 2188, 0], .null, [])),
  (244, (.aload_n 2, 245, none, [2], .null, [])),
  (245, (.aload_n 0, 246, none, [0], .null, [])),
  (246, (.iload_n 3, 247, none, [3], .null, [])),
  (247, (.iconst 1, 248, none, [], .int 1, [])),
  (248, (.iadd, 249, none, [], .null, [])),
  (249, (.iaload, 250, none, [9], .null, [])),
  (250, (.aload_n 0, 251, none, [0], .null, [])),
  (251, (.iload_n 3, 252, none, [3], .null, [])),
  (252, (.iconst 2, 253, none, [], .int 2, [])),
  (253, (.iadd, 254, none, [], .null, [])),
  (254, (.iaload, 255, none, [9], .null, [])),
  (255, (.invokevirtual 35, 258, none, [74, 3, 1, 4092, 0], .null, [])),
  (258, (.if_icmp .eq 446, 261, none, [704], .null, [])),
  (261, (.iconst 0, 262, none, [], .int 0, [])),
  (262, (.ireturn, 263, none, [4], .null, [])),
  (263, (.aload_n 1, 264, none, [1], .null, [])),
  (264, (.aload_n 0, 265, none, [0], .null, [])),
  (265, (.iload_n 3, 266, none, [3], .null, [])),
  (266, (.iconst 1, 267, none, [], .int 1, [])),
  (267, (.iadd, 268, none, [], .null, [])),
  (268, (.iaload, 269, none, [9], .null, [])),
  (269, (.invokevirtual 36, 272, none, [77, 2, 1, 2197, 0], .null, [])),
  (272, (.aload_n 2, 273, none, [2], .null, [])),
  (273, (.aload_n 0, 274, none, [0], .null, [])),
  (274, (.iload_n 3, 275, none, [3], .null, [])),
  (275, (.iconst 1, 276, none, [], .int 1, [])),
  (276, (.iadd, 277, none, [], .null, [])),
  (277, (.iaload, 278, none, [9], .null, [])),
  (278, (.invokevirtual 39, 281, none, [79, 2, 1, 4100, 0], .null, [])),
  (281, (.if_icmp .eq 423, 284, none, [704], .null, [])),
  (284, (.iconst 0, 285, none, [], .int 0, [])),
  (285, (.ireturn, 286, none, [4], .null, [])),
  (286, (.aload_n 1, 287, none, [1], .null, [])),
  (287, (.invokevirtual 40, 290, none, [82, 1, 1, 2208, 0], .null, [])),
  (290, (.aload_n 2, 291, none, [2], .null, [])),
  (291, (.invokevirtual 43, 294, none, [84, 1, 1, 4108, 0], .null, [])),
  (294, (.if_icmp .eq 410, 297, none, [704], .null, [])),
  (297, (.iconst 0, 298, none, [], .int 0, [])),
  (298, (.ireturn, 299, none, [4], .null, [])),
  (299, (.aload_n 1, 300, none, [1], .null, [])),
  (300, (.aload_n 0, 301, none, [0], .null, [])),
  (301, (.iload_n 3, 302, none, [3], .null, [])),
  (302, (.iconst 1, 303, none, [], .int 1, [])),
  (303, (.iadd, 304, none, [], .null, [])),
  (304, (.iaload, 305, none, [9], .null, [])),
  (305, (.aload_n 0, 306, none, [0], .null, [])),
  (306, (.iload_n 3, 307, none, [3], .null, [])),
  (307, (.iconst 2, 308, none, [], .int 2, [])),
  (308, (.iadd, 309, none, [], .null, [])),
  (309, (.iaload, 310, none, [9], .null, [])),
  (310, (.invokevirtual 44, 313, none, [85, 3, 1, 2221, 0], .null, [])),
  (313, (.aload_n 2, 314, none, [2], .null, [])),
  (314, (.aload_n 0, 315, none, [0], .null, [])),
  (315, (.iload_n 3, 316, none, [3], .null, [])),
  (316, (.iconst 1, 317, none, [], .int 1, [])),
  (317, (.iadd, 318, none, [], .null, [])),
  (318, (.iaload, 319, none, [9], .null, [])),
  (319, (.aload_n 0, 320, none, [0], .null, [])),
  (320, (.iload_n 3, 321, none, [3], .null, [])),
  (321, (.iconst 2, 322, none, [], .int 2, [])),
  (322, (.iadd, 323, none, [], .null, [])),
  (323, (.iaload, 324, none, [9], .null, [])),
  (324, (.invokevirtual 47, 327, none, [87, 3, 1, 4116, 0], .null, [])),
  (327, (.if_icmp .eq 377, 330, none, [704], .null, [])),
  (330, (.iconst 0, 331, none, [], .int 0, [])),
  (331, (.ireturn, 332, none, [4], .null, [])),
  (332, (.aload_n 1, 333, none, [1], .null, [])),
  (333, (.aload_n 0, 334, none, [0], .null, [])),
  (334, (.iload_n 3, 335, none, [3], .null, [])),
  (335, (.iconst 1, 336, none, [], .int 1, [])),
  (336, (.iadd, 337, none, [], .null, [])),
  (337, (.iaload, 338, none, [9], .null, [])),
  (338, (.invokevirtual 48, 341, none, [89, 2, 1, 2227, 0], .null, [])),
  (341, (.aload_n 2, 342, none, [2], .null, [])),
  (342, (.aload_n 0, 343, none, [0], .null, [])),
  (343, (.iload_n 3, 344, none, [3], .null, [])),
  (344, (.iconst 1, 345, none, [], .int 1, [])),
  (345, (.iadd, 346, none, [], .null, [])),
  (346, (.iaload, 347, none, [9], .null, [])),
  (347, (.invokevirtual 51, 350, none, [90, 2, 1, 4124, 0], .null, [])),
  (350, (.if_icmp .eq 354, 353, none, [704], .null, [])),
  (353, (.iconst 0, 354, none, [], .int 0, [])),
  (354, (.ireturn, 355, none, [4], .null, [])),
  (355, (.aload_n 1, 356, none, [1], .null, [])),
  (356, (.aload_n 0, 357, none, [0], .null, [])),
  (357, (.iload_n 3, 358, none, [3], .null, [])),
  (358, (.iconst 1, 359, none, [], .int 1, [])),
  (359, (.iadd, 360, none, [], .null, [])),
  (360, (.iaload, 361, none, [9], .null, [])),
  (361, (.invokevirtual 52, 364, none, [91, 2, 1, 2237, 0], .null, [])),
  (364, (.aload_n 2, 365, none, [2], .null, [])),
  (365, (.aload_n 0, 366, none, [0], .null, [])),
  (366, (.iload_n 3, 367, none, [3], .null, [])),
  (367, (.iconst 1, 368, none, [], .int 1, [])),
  (368, (.iadd, 369, none, [], .null, [])),
  (369, (.iaload, 370, none, [9], .null, [])),
  (370, (.invokevirtual 55, 373, none, [92, 2, 1, 4128, 0], .null, [])),
  (373, (.if_icmp .eq 331, 376, none, [704], .null, [])),
  (376, (.iconst 0, 377, none, [], .int 0, [])),
  (377, (.ireturn, 378, none, [4], .null, [])),
  (378, (.aload_n 1, 379, none, [1], .null, [])),
  (379, (.invokevirtual 56, 382, none, [94, 1, 1, 3001, 0], .null, [])),
  (382, (.aload_n 2, 383, none, [2], .null, [])),
  (383, (.invokevirtual 59, 386, none, [95, 1, 1, 4132, 0], .null, [])),
  (386, (.if_icmp .eq 318, 389, none, [704], .null, [])),
  (389, (.iconst 0, 390, none, [], .int 0, [])),
  (390, (.ireturn, 391, none, [4], .null, [])),
  (391, (.aload_n 1, 392, none, [1], .null, [])),
  (392, (.invokevirtual 60, 395, none, [97, 1, 1, 3009, 0], .null, [])),
  (395, (.aload_n 2, 396, none, [2], .null, [])),
  (396, (.invokevirtual 63, 399, none, [98, 1, 1, 4136, 0], .null, [])),
  (399, (.if_icmp .eq 305, 402, none, [704], .null, [])),
  (402, (.iconst 0, 403, none, [], .int 0, [])),
  (403, (.ireturn, 404, none, [4], .null, [])),
  (404, (.aload_n 1, 405, none, [1], .null, [])),
  (405, (.aload_n 0, 406, none, [0], .null, [])),
  (406, (.iload_n 3, 407, none, [3], .null, [])),
  (407, (.iconst 1, 408, none, [], .int 1, [])),
  (408, (.iadd, 409, none, [], .null, [])),
  (409, (.iaload, 410, none, [9], .null, [])),
  (410, (.invokevirtual 64, 413, none, [104, 2, 1, 3017, 0], .null, [])),
  (413, (.aload_n 2, 414, none, [2], .null, [])),
  (414, (.aload_n 0, 415, none, [0], .null, [])),
  (415, (.iload_n 3, 416, none, [3], .null, [])),
  (416, (.iconst 1, 417, none, [], .int 1, [])),
  (417, (.iadd, 418, none, [], .null, [])),
  (418, (.iaload, 419, none, [9], .null, [])),
  (419, (.invokevirtual 67, 422, none, [109, 2, 1, 4140, 0], .null, [])),
  (422, (.if_icmp .eq 282, 425, none, [704], .null, [])),
  (425, (.iconst 0, 426, none, [], .int 0, [])),
  (426, (.ireturn, 427, none, [4], .null, [])),
  (427, (.aload_n 1, 428, none, [1], .null, [])),
  (428, (.invokevirtual 68, 431, none, [111, 1, 1, 3045, 0], .null, [])),
  (431, (.aload_n 2, 432, none, [2], .null, [])),
  (432, (.invokevirtual 71, 435, none, [112, 1, 1, 4159, 0], .null, [])),
  (435, (.if_icmp .eq 269, 438, none, [704], .null, [])),
  (438, (.iconst 0, 439, none, [], .int 0, [])),
  (439, (.ireturn, 440, none, [4], .null, [])),
  (440, (.aload_n 1, 441, none, [1], .null, [])),
  (441, (.aload_n 0, 442, none, [0], .null, [])),
  (442, (.iload_n 3, 443, none, [3], .null, [])),
  (443, (.iconst 1, 444, none, [], .int 1, [])),
  (444, (.iadd, 445, none, [], .null, [])),
  (445, (.iaload, 446, none, [9], .null, [])),
  (446, (.invokevirtual 72, 449, none, [121, 2, 1, 3053, 0], .null, [])),
  (449, (.aload_n 2, 450, none, [2], .null, [])),
  (450, (.aload_n 0, 451, none, [0], .null, [])),
  (451, (.iload_n 3, 452, none, [3], .null, [])),
  (452, (.iconst 1, 453, none, [], .int 1, [])),
  (453, (.iadd, 454, none, [], .null, [])),
  (454, (.iaload, 455, none, [9], .null, [])),
  (455, (.invokevirtual 75, 458, none, [122, 2, 1, 4163, 0], .null, [])),
  (458, (.if_icmp .eq 246, 461, none, [704], .null, [])),
  (461, (.iconst 0, 462, none, [], .int 0, [])),
  (462, (.ireturn, 463, none, [4], .null, [])),
  (463, (.aload_n 1, 464, none, [1], .null, [])),
  (464, (.aload_n 0, 465, none, [0], .null, [])),
  (465, (.iload_n 3, 466, none, [3], .null, [])),
  (466, (.iconst 1, 467, none, [], .int 1, [])),
  (467, (.iadd, 468, none, [], .null, [])),
  (468, (.iaload, 469, none, [9], .null, [])),
  (469, (.aload_n 0, 470, none, [0], .null, [])),
  (470, (.iload_n 3, 471, none, [3], .null, [])),
  (471, (.iconst 2, 472, none, [], .int 2, [])),
  (472, (.iadd, 473, none, [], .null, [])),
  (473, (.iaload, 474, none, [9], .null, [])),
  (474, (.aload_n 0, 475, none, [0], .null, [])),
  (475, (.iload_n 3, 476, none, [3], .null, [])),
  (476, (.iconst 3, 477, none, [], .int 3, [])),
  (477, (.iadd, 478, none, [], .null, [])),
  (478, (.iaload, 479, none, [9], .null, [])),
  (479, (.invokevirtual 76, 482, none, [125, 4, 1, 3070, 0], .null, [])),
  (482, (.aload_n 2, 483, none, [2], .null, [])),
  (483, (.aload_n 0, 484, none, [0], .null, [])),
  (484, (.iload_n 3, 485, none, [3], .null, [])),
  (485, (.iconst 1, 486, none, [], .int 1, [])),
  (486, (.iadd, 487, none, [], .null, [])),
  (487, (.iaload, 488, none, [9], .null, [])),
  (488, (.aload_n 0, 489, none, [0], .null, [])),
  (489, (.iload_n 3, 490, none, [3], .null, [])),
  (490, (.iconst 2, 491, none, [], .int 2, [])),
  (491, (.iadd, 492, none, [], .null, [])),
  (492, (.iaload, 493, none, [9], .null, [])),
  (493, (.aload_n 0, 494, none, [0], .null, [])),
  (494, (.iload_n 3, 495, none, [3], .null, [])),
  (495, (.iconst 3, 496, none, [], .int 3, [])),
  (496, (.iadd, 497, none, [], .null, [])),
  (497, (.iaload, 498, none, [9], .null, [])),
  (498, (.invokevirtual 80, 501, none, [126, 4, 1, 4167, 0], .null, [])),
  (501, (.if_icmp .eq 203, 504, none, [704], .null, [])),
  (504, (.iconst 0, 505, none, [], .int 0, [])),
  (505, (.ireturn, 506, none, [4], .null, [])),
  (506, (.aload_n 1, 507, none, [1], .null, [])),
  (507, (.aload_n 0, 508, none, [0], .null, [])),
  (508, (.iload_n 3, 509, none, [3], .null, [])),
  (509, (.iconst 1, 510, none, [], .int 1, [])),
  (510, (.iadd, 511, none, [], .null, [])),
  (511, (.iaload, 512, none, [9], .null, [])),
  (512, (.aload_n 0, 513, none, [0], .null, [])),
  (513, (.iload_n 3, 514, none, [3], .null, [])),
  (514, (.iconst 2, 515, none, [], .int 2, [])),
  (515, (.iadd, 516, none, [], .null, [])),
  (516, (.iaload, 517, none, [9], .null, [])),
  (517, (.invokevirtual 81, 520, none, [128, 3, 1, 3080, 0], .null, [])),
  (520, (.aload_n 2, 521, none, [2], .null, [])),
  (521, (.aload_n 0, 522, none, [0], .null, [])),
  (522, (.iload_n 3, 523, none, [3], .null, [])),
  (523, (.iconst 1, 524, none, [], .int 1, [])),
  (524, (.iadd, 525, none, [], .null, [])),
  (525, (.iaload, 526, none, [9], .null, [])),
  (526, (.aload_n 0, 527, none, [0], .null, [])),
  (527, (.iload_n 3, 528, none, [3], .null, [])),
  (528, (.iconst 2, 529, none, [], .int 2, [])),
  (529, (.iadd, 530, none, [], .null, [])),
  (530, (.iaload, 531, none, [9], .null, [])),
  (531, (.invokevirtual 84, 534, none, [129, 3, 1, 4171, 0], .null, [])),
  (534, (.if_icmp .eq 170, 537, none, [704], .null, [])),
  (537, (.iconst 0, 538, none, [], .int 0, [])),
  (538, (.ireturn, 539, none, [4], .null, [])),
  (539, (.aload_n 1, 540, none, [1], .null, [])),
  (540, (.invokevirtual 85, 543, none, [130, 1, 1, 3089, 0], .null, [])),
  (543, (.aload_n 2, 544, none, [2], .null, [])),
  (544, (.invokevirtual 88, 547, none, [131, 1, 1, 4175, 0], .null, [])),
  (547, (.if_icmp .eq 157, 550, none, [704], .null, [])),
  (550, (.iconst 0, 551, none, [], .int 0, [])),
  (551, (.ireturn, 552, none, [4], .null, [])),
  (552, (.aload_n 1, 553, none, [1], .null, [])),
  (553, (.aload_n 0, 554, none, [0], .null, [])),
  (554, (.iload_n 3, 555, none, [3], .null, [])),
  (555, (.iconst 1, 556, none, [], .int 1, [])),
  (556, (.iadd, 557, none, [], .null, [])),
  (557, (.iaload, 558, none, [9], .null, [])),
  (558, (.invokevirtual 89, 561, none, [136, 2, 1, 3093, 0], .null, [])),
  (561, (.aload_n 2, 562, none, [2], .null, [])),
  (562, (.aload_n 0, 563, none, [0], .null, [])),
  (563, (.iload_n 3, 564, none, [3], .null, [])),
  (564, (.iconst 1, 565, none, [], .int 1, [])),
  (565, (.iadd, 566, none, [], .null, [])),
  (566, (.iaload, 567, none, [9], .null, [])),
  (567, (.invokevirtual 92, 570, none, [139, 2, 1, 4179, 0], .null, [])),
  (570, (.if_icmp .eq 134, 573, none, [704], .null, [])),
  (573, (.iconst 0, 574, none, [], .int 0, [])),
  (574, (.ireturn, 575, none, [4], .null, [])),
  (575, (.aload_n 1, 576, none, [1], .null, [])),
  (576, (.invokevirtual 93, 579, none, [141, 1, 1, 3114, 0], .null, [])),
  (579, (.aload_n 2, 580, none, [2], .null, [])),
  (580, (.invokevirtual 96, 583, none, [142, 1, 1, 4191, 0], .null, [])),
  (583, (.if_icmp .eq 121, 586, none, [704], .null, [])),
  (586, (.iconst 0, 587, none, [], .int 0, [])),
  (587, (.ireturn, 588, none, [4], .null, [])),
  (588, (.aload_n 1, 589, none, [1], .null, [])),
  (589, (.aload_n 0, 590, none, [0], .null, [])),
  (590, (.iload_n 3, 591, none, [3], .null, [])),
  (591, (.iconst 1, 592, none, [], .int 1, [])),
  (592, (.iadd, 593, none, [], .null, [])),
  (593, (.iaload, 594, none, [9], .null, [])),
  (594, (.aload_n 0, 595, none, [0], .null, [])),
  (595, (.iload_n 3, 596, none, [3], .null, [])),
  (596, (.iconst 2, 597, none, [], .int 2, [])),
  (597, (.iadd, 598, none, [], .null, [])),
  (598, (.iaload, 599, none, [9], .null, [])),
  (599, (.invokevirtual 97, 602, none, [149, 3, 1, 3125, 0], .null, [])),
  (602, (.aload_n 2, 603, none, [2], .null, [])),
  (603, (.aload_n 0, 604, none, [0], .null, [])),
  (604, (.iload_n 3, 605, none, [3], .null, [])),
  (605, (.iconst 1, 606, none, [], .int 1, [])),
  (606, (.iadd, 607, none, [], .null, [])),
  (607, (.iaload, 608, none, [9], .null, [])),
  (608, (.aload_n 0, 609, none, [0], .null, [])),
  (609, (.iload_n 3, 610, none, [3], .null, [])),
  (610, (.iconst 2, 611, none, [], .int 2, [])),
  (611, (.iadd, 612, none, [], .null, [])),
  (612, (.iaload, 613, none, [9], .null, [])),
  (613, (.invokevirtual 100, 616, none, [150, 3, 1, 4195, 0], .null, [])),
  (616, (.if_icmp .eq 88, 619, none, [704], .null, [])),
  (619, (.iconst 0, 620, none, [], .int 0, [])),
  (620, (.ireturn, 621, none, [4], .null, [])),
  (621, (.aload_n 1, 622, none, [1], .null, [])),
  (622, (.aload_n 0, 623, none, [0], .null, [])),
  (623, (.iload_n 3, 624, none, [3], .null, [])),
  (624, (.iconst 1, 625, none, [], .int 1, [])),
  (625, (.iadd, 626, none, [], .null, [])),
  (626, (.iaload, 627, none, [9], .null, [])),
  (627, (.invokevirtual 101, 630, none, [151, 2, 1, 3159, 0], .null, [])),
  (630, (.aload_n 2, 631, none, [2], .null, [])),
  (631, (.aload_n 0, 632, none, [0], .null, [])),
  (632, (.iload_n 3, 633, none, [3], .null, [])),
  (633, (.iconst 1, 634, none, [], .int 1, [])),
  (634, (.iadd, 635, none, [], .null, [])),
  (635, (.iaload, 636, none, [9], .null, [])),
  (636, (.invokevirtual 104, 639, none, [152, 2, 1, 4205, 0], .null, [])),
  (639, (.if_icmp .eq 65, 642, none, [704], .null, [])),
  (642, (.iconst 0, 643, none, [], .int 0, [])),
  (643, (.ireturn, 644, none, [4], .null, [])),
  (644, (.aload_n 1, 645, none, [1], .null, [])),
  (645, (.aload_n 0, 646, none, [0], .null, [])),
  (646, (.iload_n 3, 647, none, [3], .null, [])),
  (647, (.iconst 1, 648, none, [], .int 1, [])),
  (648, (.iadd, 649, none, [], .null, [])),
  (649, (.iaload, 650, none, [9], .null, [])),
  (650, (.invokevirtual 105, 653, none, [153, 2, 1, 3164, 0], .null, [])),
  (653, (.aload_n 2, 654, none, [2], .null, [])),
  (654, (.aload_n 0, 655, none, [0], .null, [])),
  (655, (.iload_n 3, 656, none, [3], .null, [])),
  (656, (.iconst 1, 657, none, [], .int 1, [])),
  (657, (.iadd, 658, none, [], .null, [])),
  (658, (.iaload, 659, none, [9], .null, [])),
  (659, (.invokevirtual 108, 662, none, [154, 2, 1, 4209, 0], .null, [])),
  (662, (.if_icmp .eq 42, 665, none, [704], .null, [])),
  (665, (.iconst 0, 666, none, [], .int 0, [])),
  (666, (.ireturn, 667, none, [4], .null, [])),
  (667, (.aload_n 1, 668, none, [1], .null, [])),
  (668, (.aload_n 0, 669, none, [0], .null, [])),
  (669, (.iload_n 3, 670, none, [3], .null, [])),
  (670, (.iconst 1, 671, none, [], .int 1, [])),
  (671, (.iadd, 672, none, [], .null, [])),
  (672, (.iaload, 673, none, [9], .null, [])),
  (673, (.invokevirtual 109, 676, none, [155, 2, 1, 3168, 0], .null, [])),
  (676, (.aload_n 2, 677, none, [2], .null, [])),
  (677, (.aload_n 0, 678, none, [0], .null, [])),
  (678, (.iload_n 3, 679, none, [3], .null, [])),
  (679, (.iconst 1, 680, none, [], .int 1, [])),
  (680, (.iadd, 681, none, [], .null, [])),
  (681, (.iaload, 682, none, [9], .null, [])),
  (682, (.invokevirtual 112, 685, none, [156, 2, 1, 4213, 0], .null, [])),
  (685, (.if_icmp .eq 19, 688, none, [704], .null, [])),
  (688, (.iconst 0, 689, none, [], .int 0, [])),
  (689, (.ireturn, 690, none, [4], .null, [])),
  (690, (.aload_n 1, 691, none, [1], .null, [])),
  (691, (.invokevirtual 113, 694, none, [157, 1, 2, 3172, 0], .null, [])),
  (694, (.aload_n 2, 695, none, [2], .null, [])),
  (695, (.invokevirtual 117, 698, none, [158, 1, 2, 4217, 0], .null, [])),
  (698, (.lcmp, 699, none, [], .null, [])),
  (699, (.ifCond .eq 5, 702, none, [704], .null, [])),
  (702, (.iconst 0, 703, none, [], .int 0, [])),
  (703, (.ireturn, 704, none, [4], .null, [])),
  (704, (.iinc 3 4, 707, some [0, 1, 2, 3], [3], .int 4, [])),
  (707, (.goto (-689), 710, none, [18], .null, [])),
  (710, (.iconst 1, 711, none, [], .int 1, [])),
  (711, (.ireturn, 712, none, [4], .null, []))]
def qm_159 : qM := ((yL_law, code, 4, ret), ("PlushFlocksLaw", 99, 0), [0, 0, 0, 0, 1], qc_159)
def q_msl : List qM := [qm_0, qm_1, qm_2, qm_3, qm_4, qm_5, qm_6, qm_7, qm_8, qm_9, qm_10, qm_11, qm_12, qm_13, qm_14, qm_15, qm_16, qm_17, qm_18, qm_19, qm_20, qm_21, qm_22, qm_23, qm_24, qm_25, qm_26, qm_27, qm_28, qm_29, qm_30, qm_31, qm_32, qm_33, qm_34, qm_35, qm_36, qm_37, qm_38, qm_39, qm_40, qm_41, qm_42, qm_43, qm_44, qm_45, qm_46, qm_47, qm_48, qm_49, qm_50, qm_51, qm_52, qm_53, qm_54, qm_55, qm_56, qm_57, qm_58, qm_59, qm_60, qm_61, qm_62, qm_63, qm_64, qm_65, qm_66, qm_67, qm_68, qm_69, qm_70, qm_71, qm_72, qm_73, qm_74, qm_75, qm_76, qm_77, qm_78, qm_79, qm_80, qm_81, qm_82, qm_83, qm_84, qm_85, qm_86, qm_87, qm_88, qm_89, qm_90, qm_91, qm_92, qm_93, qm_94, qm_95, qm_96, qm_97, qm_98, qm_99, qm_100, qm_101, qm_102, qm_103, qm_104, qm_105, qm_106, qm_107, qm_108, qm_109, qm_110, qm_111, qm_112, qm_113, qm_114, qm_115, qm_116, qm_117, qm_118, qm_119, qm_120, qm_121, qm_122, qm_123, qm_124, qm_125, qm_126, qm_127, qm_128, qm_129, qm_130, qm_131, qm_132, qm_133, qm_134, qm_135, qm_136, qm_137, qm_138, qm_139, qm_140, qm_141, qm_142, qm_143, qm_144, qm_145, qm_146, qm_147, qm_148, qm_149, qm_150, qm_151, qm_152, qm_153, qm_154, qm_155, qm_156, qm_157, qm_158, qm_159]
def q_ms (k : Nat) : qM := q_msl.getD k qm_0
noncomputable def q_call (j : Nat) : List Value → qH → Option qR := q_cn q_ms (j + 1) j
noncomputable def q_run (k : Nat) : Nat → qL → List Value → qH → Option qR := q_rn0 k (q_ms k).2.2.2 q_call
theorem q_call_eq (k : Nat) (args : List Value) (σ : qH) : q_call k args σ = q_ent (q_ms k) args σ (q_run k) := q_cn_self q_ms k args σ
theorem q_run_eq (k : Nat) (pc : Nat) (L : qL) (st : List Value) (σ : qH) : q_run k pc L st σ = q_F k (q_ms k).2.2.2 q_call none some (q_run k) pc L st σ := q_rn0_eq ..
theorem q_run_un (k : Nat) (cuts : List Nat) (n : Nat) (pc : Nat) (L : qL) (st : List Value) (σ : qH) : q_run k pc L st σ = q_F k (q_ms k).2.2.2 q_call none some (q_un k (q_ms k).2.2.2 q_call (q_run k) cuts n) pc L st σ := by
  rw [q_un_eq (q_run_eq k) cuts n]
  exact q_run_eq k pc L st σ
def q_nest : List Cond := [(Cond.methodLinkNest "PlushFlocks" (19 : Nat) ({ cls := "PlushFlocks$Plan", name := "<init>", desc := "()V" } : Jvm.MethodName) "PlushFlocks"), (Cond.methodLinkNest "PlushFlocks" (26 : Nat) ({ cls := "PlushFlocks$Evening", name := "<init>", desc := "()V" } : Jvm.MethodName) "PlushFlocks"), (Cond.methodLinkNest "PlushFlocks$Past" (24 : Nat) ({ cls := "PlushFlocks$Evening", name := "<init>", desc := "()V" } : Jvm.MethodName) "PlushFlocks"), (Cond.methodLinkNest "PlushFlocks" (50 : Nat) ({ cls := "PlushFlocks$Grazing", name := "<init>", desc := "()V" } : Jvm.MethodName) "PlushFlocks"), (Cond.methodLinkNest "PlushFlocks" (57 : Nat) ({ cls := "PlushFlocks$WayBack", name := "<init>", desc := "()V" } : Jvm.MethodName) "PlushFlocks"), (Cond.methodLinkNest "PlushFlocks$Reader" (33 : Nat) ({ cls := "PlushFlocks$Plan", name := "<init>", desc := "()V" } : Jvm.MethodName) "PlushFlocks"), (Cond.methodLinkNest "PlushFlocks$Plan" (44 : Nat) ({ cls := "PlushFlocks", name := "withLane", desc := "(JII)J" } : Jvm.MethodName) "PlushFlocks"), (Cond.methodLinkNest "PlushFlocks$Plan" (48 : Nat) ({ cls := "PlushFlocks", name := "lane", desc := "(JI)I" } : Jvm.MethodName) "PlushFlocks"), (Cond.methodLinkNest "PlushFlocks$Plan" (52 : Nat) ({ cls := "PlushFlocks", name := "withSpot", desc := "(III)I" } : Jvm.MethodName) "PlushFlocks"), (Cond.methodLinkNest "PlushFlocks$Plan" (56 : Nat) ({ cls := "PlushFlocks", name := "spot", desc := "(II)I" } : Jvm.MethodName) "PlushFlocks"), (Cond.methodLinkNest "PlushFlocks$Evening" (44 : Nat) ({ cls := "PlushFlocks", name := "spot", desc := "(II)I" } : Jvm.MethodName) "PlushFlocks"), (Cond.methodLinkNest "PlushFlocks$Evening" (48 : Nat) ({ cls := "PlushFlocks", name := "has", desc := "(II)Z" } : Jvm.MethodName) "PlushFlocks"), (Cond.methodLinkNest "PlushFlocks$Evening" (52 : Nat) ({ cls := "PlushFlocks", name := "lane", desc := "(JI)I" } : Jvm.MethodName) "PlushFlocks"), (Cond.methodLinkNest "PlushFlocks$Evening" (89 : Nat) ({ cls := "PlushFlocks", name := "withLane", desc := "(JII)J" } : Jvm.MethodName) "PlushFlocks"), (Cond.methodLinkNest "PlushFlocks$Plan" (60 : Nat) ({ cls := "PlushFlocks", name := "has", desc := "(II)Z" } : Jvm.MethodName) "PlushFlocks"), (Cond.methodLinkNest "PlushFlocks$Evening" (70 : Nat) ({ cls := "PlushFlocks", name := "lowest", desc := "(I)I" } : Jvm.MethodName) "PlushFlocks"), (Cond.methodLinkNest "PlushFlocks$Evening" (74 : Nat) ({ cls := "PlushFlocks", name := "withSpot", desc := "(III)I" } : Jvm.MethodName) "PlushFlocks"), (Cond.methodLinkNest "PlushFlocks$Past" (25 : Nat) ({ cls := "PlushFlocks", name := "slot", desc := "([LPlushFlocks$Evening;I)LPlushFlocks$Evening;" } : Jvm.MethodName) "PlushFlocks"), (Cond.methodLinkNest "PlushFlocks$WayBack" (67 : Nat) ({ cls := "PlushFlocks", name := "spot", desc := "(II)I" } : Jvm.MethodName) "PlushFlocks"), (Cond.methodLinkNest "PlushFlocks$WayBack" (70 : Nat) ({ cls := "PlushFlocks", name := "lane", desc := "(JI)I" } : Jvm.MethodName) "PlushFlocks"), (Cond.methodLinkNest "PlushFlocks$WayBack" (77 : Nat) ({ cls := "PlushFlocks", name := "has", desc := "(II)Z" } : Jvm.MethodName) "PlushFlocks"), (Cond.methodLinkNest "PlushFlocks$WayBack" (80 : Nat) ({ cls := "PlushFlocks", name := "withSpot", desc := "(III)I" } : Jvm.MethodName) "PlushFlocks"), (Cond.methodLinkNest "PlushFlocks$Grazing" (34 : Nat) ({ cls := "PlushFlocks", name := "withLane", desc := "(JII)J" } : Jvm.MethodName) "PlushFlocks"), (Cond.methodLinkNest "PlushFlocks$Grazing" (51 : Nat) ({ cls := "PlushFlocks", name := "lane", desc := "(JI)I" } : Jvm.MethodName) "PlushFlocks"), (Cond.methodLinkNest "PlushFlocks$Grazing" (59 : Nat) ({ cls := "PlushFlocks", name := "has", desc := "(II)Z" } : Jvm.MethodName) "PlushFlocks")]
-- NESTPL [1022, 1084, 1123, 1137, 1169, 2006, 2095, 2104, 2111, 2144, 2163, 2164, 2167, 2173, 2178, 2183, 2187, 2216, 3037, 3038, 3039, 3040, 3088, 3105, 3109] ARROV [1122]
end
section
/-! ===== the tables against the bytecode and the Statement's words ===== -/
def q_wd (p : Nat) : Option Cond := match p / 1000 with
  | 0 => (k2_sels lw_privs)[p % 1000]?
  | 1 => tables_1_1[p % 1000]?
  | 2 => tables_1_2[p % 1000]?
  | 3 => tables_1_3[p % 1000]?
  | _ => tables_1_4[p % 1000]?
theorem q_wd_in {p : Nat} {w : Cond} (h : q_wd p = some w) : w ∈ lw_tbl := by
  unfold q_wd at h
  unfold lw_tbl tables_1
  split at h <;> have h := List.mem_of_getElem? h
  · exact List.mem_append_left _ h
  · exact List.mem_append_right _ (List.mem_append_left _ h)
  · exact List.mem_append_right _ (List.mem_append_right _ (List.mem_append_left _ h))
  · exact List.mem_append_right _ (List.mem_append_right _ (List.mem_append_right _ (List.mem_append_left _ h)))
  · exact List.mem_append_right _ (List.mem_append_right _ (List.mem_append_right _ (List.mem_append_right _ h)))
def q_WS : List Cond := lw_tbl.filter goodWord
def q_gd (p : Nat) (w : Cond) : Bool := match q_wd p with
  | some v => decide (v = w) && goodWord w
  | none => false
theorem q_gd_in {p : Nat} {w : Cond} (h : q_gd p w = true) : w ∈ q_WS := by
  unfold q_gd at h
  split at h
  · next v hv =>
    rw [Bool.and_eq_true] at h
    have e := of_decide_eq_true h.1
    subst e
    exact List.mem_filter.mpr ⟨q_wd_in hv, h.2⟩
  · cases h
theorem q_WS_good {ws : List Cond} (h : ∀ w ∈ ws, w ∈ q_WS) {big : List Cond} (hb : ∀ w ∈ q_WS, w ∈ big) : GoodIn big ws := fun w hw => ⟨hb w (h w hw), good_of_word (List.mem_filter.mp (h w hw)).2⟩
/-- a class by its number: name, fields, how many, their types -/
def q_cls (ci : Nat) : vw_C := match ci with
  | 0 => (RX0, TX0, 6)
  | 1 => (RX1, TX1, 7)
  | 2 => (RX2, TX2, 3)
  | 3 => (RX3, TX3, 10)
  | 4 => (RX4, TX4, 9)
  | 5 => (RX5, TX5, 5)
  | 6 => (RX6, TX6, 11)
  | _ => (RX7, TX7, 19)
def q_fty (ci : Nat) : Nat → FieldType := match ci with
  | 0 => tyX0
  | 1 => tyX1
  | 2 => tyX2
  | 3 => tyX3
  | 4 => tyX4
  | 5 => tyX5
  | 6 => tyX6
  | _ => tyX7
def q_tc : FieldType → Nat
  | .int => 0
  | .long => 1
  | .object _ => 2
  | .array _ => 2
  | .char => 3
  | .boolean => 4
  | _ => 7
def q_akt (k : Nat) : FieldType := match k with
  | 0 => .char
  | 1 => .int
  | 2 => .long
  | 3 => .boolean
  | _ => .object RX0
def q_okc (k : Nat) (M : qM) (pc idx nx : Nat) (ax : List Nat) (kd : Nat) : Bool :=
  !Nat.blt (ax.getD 0 0) k || Nat.beq nx (pc + 3) && Nat.beq (q_ms (ax.getD 0 0)).2.1.2.2 kd && Nat.beq (ax.getD 1 0) ((q_ms (ax.getD 0 0)).2.2.1.getD 4 0) &&
  (match ax.getD 4 0 with
    | 0 => q_gd (ax.getD 3 0) (.methodLink M.2.1.1 idx (q_ms (ax.getD 0 0)).1.1)
    | _ => decide (q_nest[ax.getD 3 0]? = some (.methodLinkNest M.2.1.1 idx (q_ms (ax.getD 0 0)).1.1 "PlushFlocks")))
def q_oksw (pc : Nat) : Int → List Int → List (Int32 × Nat) → Bool
  | _, [], [] => true
  | lo, o :: os, s :: ss => decide (s.1.toInt = lo) && decide ((pc : Int) + o = (s.2 : Int)) && q_oksw pc (lo + 1) os ss
  | _, _, _ => false
def q_okls (pc : Nat) : List (Int × Int) → List (Int32 × Nat) → Bool
  | [], [] => true
  | o :: os, s :: ss => decide (s.1.toInt = o.1) && decide ((pc : Int) + o.2 = (s.2 : Int)) && q_okls pc os ss
  | _, _ => false
def q_okx (k : Nat) (M : qM) (pc : Nat) (ins : Instr) (nx : Nat) (ax : List Nat) (cv : Value) (sw : List (Int32 × Nat)) : Bool :=
  match ins with
  | .iconst n => Nat.beq nx (pc + 1) && decide (cv = .int (Int32.ofInt n))
  | .bipush n => Nat.beq nx (pc + 2) && decide (cv = .int (Int8.ofInt n).toInt32)
  | .sipush n => Nat.beq nx (pc + 3) && decide (cv = .int (Int16.ofInt n).toInt32)
  | .lconst n => Nat.beq nx (pc + 1) && decide (cv = .long (Int64.ofNat (n : Nat)))
  | .ldc i => Nat.beq nx (pc + 2) && (match cv with
    | .int v => q_gd (ax.getD 0 0) (.constant M.2.1.1 i v)
    | _ => false)
  | .ldc_w i => Nat.beq nx (pc + 3) && (match cv with
    | .int v => q_gd (ax.getD 0 0) (.constant M.2.1.1 i v)
    | _ => false)
  | .ldc2_w i => Nat.beq nx (pc + 3) && (match cv with
    | .long v => q_gd (ax.getD 0 0) (.constantLong M.2.1.1 i v)
    | _ => false)
  | .aconst_null => Nat.beq nx (pc + 1)
  | .iload i => Nat.beq nx (pc + 2) && Nat.beq (ax.getD 0 0) i
  | .iload_n i => Nat.beq nx (pc + 1) && Nat.beq (ax.getD 0 0) (i : Nat)
  | .lload i => Nat.beq nx (pc + 2) && Nat.beq (ax.getD 0 0) i
  | .lload_n i => Nat.beq nx (pc + 1) && Nat.beq (ax.getD 0 0) (i : Nat)
  | .aload i => Nat.beq nx (pc + 2) && Nat.beq (ax.getD 0 0) i
  | .aload_n i => Nat.beq nx (pc + 1) && Nat.beq (ax.getD 0 0) (i : Nat)
  | .istore i => Nat.beq nx (pc + 2) && Nat.beq (ax.getD 0 0) i && Nat.blt (ax.getD 0 0) M.1.2.2.1
  | .istore_n i => Nat.beq nx (pc + 1) && Nat.beq (ax.getD 0 0) (i : Nat) && Nat.blt (ax.getD 0 0) M.1.2.2.1
  | .lstore i => Nat.beq nx (pc + 2) && Nat.beq (ax.getD 0 0) i && Nat.blt (ax.getD 0 0 + 1) M.1.2.2.1
  | .lstore_n i => Nat.beq nx (pc + 1) && Nat.beq (ax.getD 0 0) (i : Nat) && Nat.blt (ax.getD 0 0 + 1) M.1.2.2.1
  | .astore i => Nat.beq nx (pc + 2) && Nat.beq (ax.getD 0 0) i && Nat.blt (ax.getD 0 0) M.1.2.2.1
  | .astore_n i => Nat.beq nx (pc + 1) && Nat.beq (ax.getD 0 0) (i : Nat) && Nat.blt (ax.getD 0 0) M.1.2.2.1
  | .iinc i n => Nat.beq nx (pc + 3) && Nat.beq (ax.getD 0 0) i && Nat.blt (ax.getD 0 0) M.1.2.2.1 && decide (cv = .int (Int32.ofInt n))
  | .goto off => decide ((pc : Int) + off = (ax.getD 0 0 : Nat)) && Nat.beq nx (pc + 3)
  | .if_icmp _ off => decide ((pc : Int) + off = (ax.getD 0 0 : Nat)) && Nat.beq nx (pc + 3)
  | .ifCond _ off => decide ((pc : Int) + off = (ax.getD 0 0 : Nat)) && Nat.beq nx (pc + 3)
  | .ifnull off => decide ((pc : Int) + off = (ax.getD 0 0 : Nat)) && Nat.beq nx (pc + 3)
  | .ifnonnull off => decide ((pc : Int) + off = (ax.getD 0 0 : Nat)) && Nat.beq nx (pc + 3)
  | .tableswitch d lo hi offs => decide ((pc : Int) + d = (ax.getD 0 0 : Nat)) && decide (hi + 1 = lo + (offs.toList.length : Int)) && q_oksw pc lo offs.toList sw
  | .lookupswitch d ps => decide ((pc : Int) + d = (ax.getD 0 0 : Nat)) && (ps.toList.zip (ps.toList.drop 1)).all (fun (a, next) => a.1 < next.1) && q_okls pc ps.toList sw
  | .getfield i => Nat.beq nx (pc + 3) && Nat.blt (ax.getD 0 0) 8 && Nat.blt (ax.getD 1 0) (q_cls (ax.getD 0 0)).2.2 &&
      q_gd (ax.getD 3 0) (.fieldLink M.2.1.1 i ((q_cls (ax.getD 0 0)).2.1 (ax.getD 1 0)).1 ((q_cls (ax.getD 0 0)).2.1 (ax.getD 1 0)).2.1 ((q_cls (ax.getD 0 0)).2.1 (ax.getD 1 0)).2.2.1)
  | .putfield i => Nat.beq nx (pc + 3) && Nat.blt (ax.getD 0 0) 8 && Nat.blt (ax.getD 1 0) (q_cls (ax.getD 0 0)).2.2 &&
      q_gd (ax.getD 3 0) (.fieldLink M.2.1.1 i ((q_cls (ax.getD 0 0)).2.1 (ax.getD 1 0)).1 ((q_cls (ax.getD 0 0)).2.1 (ax.getD 1 0)).2.1 ((q_cls (ax.getD 0 0)).2.1 (ax.getD 1 0)).2.2.1) &&
      Nat.beq (ax.getD 2 0) (q_tc (q_fty (ax.getD 0 0) (ax.getD 1 0))) &&
      (!((q_cls (ax.getD 0 0)).2.1 (ax.getD 1 0)).2.2.2 || (decide (M.1.1.name = "<init>") && decide (((q_cls (ax.getD 0 0)).2.1 (ax.getD 1 0)).1 = M.2.1.1)))
  | .iaload => Nat.beq nx (pc + 1) && (Nat.beq (ax.getD 0 0) 1 || Nat.beq (ax.getD 0 0) 9)
  | .new i => Nat.beq nx (pc + 3) && Nat.blt (ax.getD 0 0) 8 && Nat.beq (ax.getD 1 0) (q_cls (ax.getD 0 0)).2.2 && q_gd (ax.getD 2 0) (.classLink M.2.1.1 i (q_cls (ax.getD 0 0)).1) &&
      q_gd (ax.getD 3 0) (.instantiable (q_cls (ax.getD 0 0)).1 (q_cls (ax.getD 0 0)).2.2) && q_gd (ax.getD 4 0) (.initialized (q_cls (ax.getD 0 0)).1)
  | .newarray t => Nat.beq nx (pc + 2) && Nat.blt (ax.getD 0 0) 4 && decide (newarray.typeOf t = q_akt (ax.getD 0 0)) && q_gd (ax.getD 1 0) (.arrayClass (newarray.typeOf t))
  | .anewarray i => Nat.beq nx (pc + 3) && q_gd (ax.getD 1 0) (.classLink M.2.1.1 i RX0)
  | .invokespecial i => (match Nat.beq (ax.getD 0 0) 999 with
    | true => Nat.beq nx (pc + 3) && q_gd (ax.getD 3 0) (.methodLink M.2.1.1 i objectInit)
    | false => q_okc k M pc i nx ax 2)
  | .invokevirtual i => q_okc k M pc i nx ax 1
  | .invokestatic i => (match Nat.beq (ax.getD 0 0) 997 with
    | true => Nat.beq nx (pc + 3) && q_gd (ax.getD 3 0) (.methodLink M.2.1.1 i Lib.Math.min.name)
    | false => (match Nat.beq (ax.getD 0 0) 996 with
      | true => Nat.beq nx (pc + 3) && q_gd (ax.getD 3 0) (.methodLink M.2.1.1 i Lib.Math.max.name)
      | false => q_okc k M pc i nx ax 0))
  | .ireturn => Nat.beq nx (pc + 1) && (match M.1.2.2.2 with
    | some t => Nat.beq (ax.getD 0 0) (q_tc t) && (decide (t = .int) || decide (t = .char) || decide (t = .boolean))
    | none => false)
  | .lreturn => Nat.beq nx (pc + 1) && decide (M.1.2.2.2 = some .long)
  | .areturn => Nat.beq nx (pc + 1) && (match M.1.2.2.2 with
    | some (.object _) => true
    | _ => false)
  | .return_ => Nat.beq nx (pc + 1) && decide (M.1.2.2.2 = none)
  | _ => Nat.beq nx (pc + 1)
def q_ok (k : Nat) (M : qM) (p : Nat × qI) : Bool := decide (decode M.1.2.1 p.1 = .ok (p.2.1, p.2.2.1 - p.1)) && q_okx k M p.1 p.2.1 p.2.2.1 p.2.2.2.2.1 p.2.2.2.2.2.1 p.2.2.2.2.2.2
/-- what a callee is -/
def q_okm (M : qM) : Bool :=
  q_gd (M.2.2.1.getD 0 0) (.code M.1.1 M.1.2.1 M.1.2.2.1 M.1.2.2.2) && q_gd (M.2.2.1.getD 1 0) (.initialized M.1.1.cls) && plainName M.1.1.cls && decide (M.2.1.1 = M.1.1.cls) &&
  decide (M.1.1.cls ≠ "java/lang/invoke/MethodHandle" ∧ M.1.1.cls ≠ "java/lang/invoke/VarHandle") && Nat.ble M.1.2.2.1 21 &&
  (match M.2.1.2.2 with
    | 0 => q_gd (M.2.2.1.getD 2 0) (.static M.1.1) && decide ((parseMethodDescriptor M.1.1.desc).map (fun d => d.parameters.length) = some (M.2.2.1.getD 4 0))
    | 1 => q_gd (M.2.2.1.getD 2 0) (.instanceMethod M.1.1) && q_gd (M.2.2.1.getD 3 0) (.selects M.1.1.cls M.1.1 M.1.1) && Nat.blt M.2.1.2.1 8 && decide ((q_cls M.2.1.2.1).1 = M.1.1.cls) && decide ((parseMethodDescriptor M.1.1.desc).map (fun d => d.parameters.length + 1) = some (M.2.2.1.getD 4 0))
    | _ => q_gd (M.2.2.1.getD 2 0) (.instanceMethod M.1.1) && decide (M.1.1.name = "<init>") && decide (M.1.2.2.2 = none) && decide ((parseMethodDescriptor M.1.1.desc).map (fun d => d.parameters.length + 1) = some (M.2.2.1.getD 4 0)))
end
section
set_option maxRecDepth 100000 in
theorem q_om_0 : q_okm qm_0 = true := by decide +kernel
set_option maxRecDepth 100000 in
theorem q_oc_0 : qc_0.all (q_ok 0 qm_0) = true := by decide +kernel
set_option maxRecDepth 100000 in
theorem q_om_1 : q_okm qm_1 = true := by decide +kernel
set_option maxRecDepth 100000 in
theorem q_oc_1 : qc_1.all (q_ok 1 qm_1) = true := by decide +kernel
set_option maxRecDepth 100000 in
theorem q_om_2 : q_okm qm_2 = true := by decide +kernel
set_option maxRecDepth 100000 in
theorem q_oc_2 : qc_2.all (q_ok 2 qm_2) = true := by decide +kernel
set_option maxRecDepth 100000 in
theorem q_om_3 : q_okm qm_3 = true := by decide +kernel
set_option maxRecDepth 100000 in
theorem q_oc_3 : qc_3.all (q_ok 3 qm_3) = true := by decide +kernel
set_option maxRecDepth 100000 in
theorem q_om_4 : q_okm qm_4 = true := by decide +kernel
set_option maxRecDepth 100000 in
theorem q_oc_4 : qc_4.all (q_ok 4 qm_4) = true := by decide +kernel
set_option maxRecDepth 100000 in
theorem q_om_5 : q_okm qm_5 = true := by decide +kernel
set_option maxRecDepth 100000 in
theorem q_oc_5 : qc_5.all (q_ok 5 qm_5) = true := by decide +kernel
set_option maxRecDepth 100000 in
theorem q_om_6 : q_okm qm_6 = true := by decide +kernel
set_option maxRecDepth 100000 in
theorem q_oc_6 : qc_6.all (q_ok 6 qm_6) = true := by decide +kernel
set_option maxRecDepth 100000 in
theorem q_om_7 : q_okm qm_7 = true := by decide +kernel
set_option maxRecDepth 100000 in
theorem q_oc_7 : qc_7.all (q_ok 7 qm_7) = true := by decide +kernel
set_option maxRecDepth 100000 in
theorem q_om_8 : q_okm qm_8 = true := by decide +kernel
set_option maxRecDepth 100000 in
theorem q_oc_8 : qc_8.all (q_ok 8 qm_8) = true := by decide +kernel
set_option maxRecDepth 100000 in
theorem q_om_9 : q_okm qm_9 = true := by decide +kernel
set_option maxRecDepth 100000 in
theorem q_oc_9 : qc_9.all (q_ok 9 qm_9) = true := by decide +kernel
set_option maxRecDepth 100000 in
theorem q_om_10 : q_okm qm_10 = true := by decide +kernel
set_option maxRecDepth 100000 in
theorem q_oc_10 : qc_10.all (q_ok 10 qm_10) = true := by decide +kernel
set_option maxRecDepth 100000 in
theorem q_om_11 : q_okm qm_11 = true := by decide +kernel
set_option maxRecDepth 100000 in
theorem q_oc_11 : qc_11.all (q_ok 11 qm_11) = true := by decide +kernel
set_option maxRecDepth 100000 in
theorem q_om_12 : q_okm qm_12 = true := by decide +kernel
set_option maxRecDepth 100000 in
theorem q_oc_12 : qc_12.all (q_ok 12 qm_12) = true := by decide +kernel
set_option maxRecDepth 100000 in
theorem q_om_13 : q_okm qm_13 = true := by decide +kernel
set_option maxRecDepth 100000 in
theorem q_oc_13 : qc_13.all (q_ok 13 qm_13) = true := by decide +kernel
set_option maxRecDepth 100000 in
theorem q_om_14 : q_okm qm_14 = true := by decide +kernel
set_option maxRecDepth 100000 in
theorem q_oc_14 : qc_14.all (q_ok 14 qm_14) = true := by decide +kernel
set_option maxRecDepth 100000 in
theorem q_om_15 : q_okm qm_15 = true := by decide +kernel
set_option maxRecDepth 100000 in
theorem q_oc_15 : qc_15.all (q_ok 15 qm_15) = true := by decide +kernel
set_option maxRecDepth 100000 in
theorem q_om_16 : q_okm qm_16 = true := by decide +kernel
set_option maxRecDepth 100000 in
theorem q_oc_16 : qc_16.all (q_ok 16 qm_16) = true := by decide +kernel
set_option maxRecDepth 100000 in
theorem q_om_17 : q_okm qm_17 = true := by decide +kernel
set_option maxRecDepth 100000 in
theorem q_oc_17 : qc_17.all (q_ok 17 qm_17) = true := by decide +kernel
set_option maxRecDepth 100000 in
theorem q_om_18 : q_okm qm_18 = true := by decide +kernel
set_option maxRecDepth 100000 in
theorem q_oc_18 : qc_18.all (q_ok 18 qm_18) = true := by decide +kernel
set_option maxRecDepth 100000 in
theorem q_om_19 : q_okm qm_19 = true := by decide +kernel
set_option maxRecDepth 100000 in
theorem q_oc_19 : qc_19.all (q_ok 19 qm_19) = true := by decide +kernel
set_option maxRecDepth 100000 in
theorem q_om_20 : q_okm qm_20 = true := by decide +kernel
set_option maxRecDepth 100000 in
theorem q_oc_20 : qc_20.all (q_ok 20 qm_20) = true := by decide +kernel
set_option maxRecDepth 100000 in
theorem q_om_21 : q_okm qm_21 = true := by decide +kernel
set_option maxRecDepth 100000 in
theorem q_oc_21 : qc_21.all (q_ok 21 qm_21) = true := by decide +kernel
set_option maxRecDepth 100000 in
theorem q_om_22 : q_okm qm_22 = true := by decide +kernel
set_option maxRecDepth 100000 in
theorem q_oc_22 : qc_22.all (q_ok 22 qm_22) = true := by decide +kernel
set_option maxRecDepth 100000 in
theorem q_om_23 : q_okm qm_23 = true := by decide +kernel
set_option maxRecDepth 100000 in
theorem q_oc_23 : qc_23.all (q_ok 23 qm_23) = true := by decide +kernel
set_option maxRecDepth 100000 in
theorem q_om_24 : q_okm qm_24 = true := by decide +kernel
set_option maxRecDepth 100000 in
theorem q_oc_24 : qc_24.all (q_ok 24 qm_24) = true := by decide +kernel
set_option maxRecDepth 100000 in
theorem q_om_25 : q_okm qm_25 = true := by decide +kernel
set_option maxRecDepth 100000 in
theorem q_oc_25 : qc_25.all (q_ok 25 qm_25) = true := by decide +kernel
set_option maxRecDepth 100000 in
theorem q_om_26 : q_okm qm_26 = true := by decide +kernel
set_option maxRecDepth 100000 in
theorem q_oc_26 : qc_26.all (q_ok 26 qm_26) = true := by decide +kernel
set_option maxRecDepth 100000 in
theorem q_om_27 : q_okm qm_27 = true := by decide +kernel
set_option maxRecDepth 100000 in
theorem q_oc_27 : qc_27.all (q_ok 27 qm_27) = true := by decide +kernel
set_option maxRecDepth 100000 in
theorem q_om_28 : q_okm qm_28 = true := by decide +kernel
set_option maxRecDepth 100000 in
theorem q_oc_28 : qc_28.all (q_ok 28 qm_28) = true := by decide +kernel
set_option maxRecDepth 100000 in
theorem q_om_29 : q_okm qm_29 = true := by decide +kernel
set_option maxRecDepth 100000 in
theorem q_oc_29 : qc_29.all (q_ok 29 qm_29) = true := by decide +kernel
set_option maxRecDepth 100000 in
theorem q_om_30 : q_okm qm_30 = true := by decide +kernel
set_option maxRecDepth 100000 in
theorem q_oc_30 : qc_30.all (q_ok 30 qm_30) = true := by decide +kernel
set_option maxRecDepth 100000 in
theorem q_om_31 : q_okm qm_31 = true := by decide +kernel
set_option maxRecDepth 100000 in
theorem q_oc_31 : qc_31.all (q_ok 31 qm_31) = true := by decide +kernel
set_option maxRecDepth 100000 in
theorem q_om_32 : q_okm qm_32 = true := by decide +kernel
set_option maxRecDepth 100000 in
theorem q_oc_32 : qc_32.all (q_ok 32 qm_32) = true := by decide +kernel
set_option maxRecDepth 100000 in
theorem q_om_33 : q_okm qm_33 = true := by decide +kernel
set_option maxRecDepth 100000 in
theorem q_oc_33 : qc_33.all (q_ok 33 qm_33) = true := by decide +kernel
set_option maxRecDepth 100000 in
theorem q_om_34 : q_okm qm_34 = true := by decide +kernel
set_option maxRecDepth 100000 in
theorem q_oc_34 : qc_34.all (q_ok 34 qm_34) = true := by decide +kernel
set_option maxRecDepth 100000 in
theorem q_om_35 : q_okm qm_35 = true := by decide +kernel
set_option maxRecDepth 100000 in
theorem q_oc_35 : qc_35.all (q_ok 35 qm_35) = true := by decide +kernel
set_option maxRecDepth 100000 in
theorem q_om_36 : q_okm qm_36 = true := by decide +kernel
set_option maxRecDepth 100000 in
theorem q_oc_36 : qc_36.all (q_ok 36 qm_36) = true := by decide +kernel
set_option maxRecDepth 100000 in
theorem q_om_37 : q_okm qm_37 = true := by decide +kernel
set_option maxRecDepth 100000 in
theorem q_oc_37 : qc_37.all (q_ok 37 qm_37) = true := by decide +kernel
set_option maxRecDepth 100000 in
theorem q_om_38 : q_okm qm_38 = true := by decide +kernel
set_option maxRecDepth 100000 in
theorem q_oc_38 : qc_38.all (q_ok 38 qm_38) = true := by decide +kernel
set_option maxRecDepth 100000 in
theorem q_om_39 : q_okm qm_39 = true := by decide +kernel
set_option maxRecDepth 100000 in
theorem q_oc_39 : qc_39.all (q_ok 39 qm_39) = true := by decide +kernel
set_option maxRecDepth 100000 in
theorem q_om_40 : q_okm qm_40 = true := by decide +kernel
set_option maxRecDepth 100000 in
theorem q_oc_40 : qc_40.all (q_ok 40 qm_40) = true := by decide +kernel
set_option maxRecDepth 100000 in
theorem q_om_41 : q_okm qm_41 = true := by decide +kernel
set_option maxRecDepth 100000 in
theorem q_oc_41 : qc_41.all (q_ok 41 qm_41) = true := by decide +kernel
set_option maxRecDepth 100000 in
theorem q_om_42 : q_okm qm_42 = true := by decide +kernel
set_option maxRecDepth 100000 in
theorem q_oc_42 : qc_42.all (q_ok 42 qm_42) = true := by decide +kernel
set_option maxRecDepth 100000 in
theorem q_om_43 : q_okm qm_43 = true := by decide +kernel
set_option maxRecDepth 100000 in
theorem q_oc_43 : qc_43.all (q_ok 43 qm_43) = true := by decide +kernel
set_option maxRecDepth 100000 in
theorem q_om_44 : q_okm qm_44 = true := by decide +kernel
set_option maxRecDepth 100000 in
theorem q_oc_44 : qc_44.all (q_ok 44 qm_44) = true := by decide +kernel
set_option maxRecDepth 100000 in
theorem q_om_45 : q_okm qm_45 = true := by decide +kernel
set_option maxRecDepth 100000 in
theorem q_oc_45 : qc_45.all (q_ok 45 qm_45) = true := by decide +kernel
set_option maxRecDepth 100000 in
theorem q_om_46 : q_okm qm_46 = true := by decide +kernel
set_option maxRecDepth 100000 in
theorem q_oc_46 : qc_46.all (q_ok 46 qm_46) = true := by decide +kernel
set_option maxRecDepth 100000 in
theorem q_om_47 : q_okm qm_47 = true := by decide +kernel
set_option maxRecDepth 100000 in
theorem q_oc_47 : qc_47.all (q_ok 47 qm_47) = true := by decide +kernel
set_option maxRecDepth 100000 in
theorem q_om_48 : q_okm qm_48 = true := by decide +kernel
set_option maxRecDepth 100000 in
theorem q_oc_48 : qc_48.all (q_ok 48 qm_48) = true := by decide +kernel
set_option maxRecDepth 100000 in
theorem q_om_49 : q_okm qm_49 = true := by decide +kernel
set_option maxRecDepth 100000 in
theorem q_oc_49 : qc_49.all (q_ok 49 qm_49) = true := by decide +kernel
set_option maxRecDepth 100000 in
theorem q_om_50 : q_okm qm_50 = true := by decide +kernel
set_option maxRecDepth 100000 in
theorem q_oc_50 : qc_50.all (q_ok 50 qm_50) = true := by decide +kernel
set_option maxRecDepth 100000 in
theorem q_om_51 : q_okm qm_51 = true := by decide +kernel
set_option maxRecDepth 100000 in
theorem q_oc_51 : qc_51.all (q_ok 51 qm_51) = true := by decide +kernel
set_option maxRecDepth 100000 in
theorem q_om_52 : q_okm qm_52 = true := by decide +kernel
set_option maxRecDepth 100000 in
theorem q_oc_52 : qc_52.all (q_ok 52 qm_52) = true := by decide +kernel
set_option maxRecDepth 100000 in
theorem q_om_53 : q_okm qm_53 = true := by decide +kernel
set_option maxRecDepth 100000 in
theorem q_oc_53 : qc_53.all (q_ok 53 qm_53) = true := by decide +kernel
set_option maxRecDepth 100000 in
theorem q_om_54 : q_okm qm_54 = true := by decide +kernel
set_option maxRecDepth 100000 in
theorem q_oc_54 : qc_54.all (q_ok 54 qm_54) = true := by decide +kernel
set_option maxRecDepth 100000 in
theorem q_om_55 : q_okm qm_55 = true := by decide +kernel
set_option maxRecDepth 100000 in
theorem q_oc_55 : qc_55.all (q_ok 55 qm_55) = true := by decide +kernel
set_option maxRecDepth 100000 in
theorem q_om_56 : q_okm qm_56 = true := by decide +kernel
set_option maxRecDepth 100000 in
theorem q_oc_56 : qc_56.all (q_ok 56 qm_56) = true := by decide +kernel
set_option maxRecDepth 100000 in
theorem q_om_57 : q_okm qm_57 = true := by decide +kernel
set_option maxRecDepth 100000 in
theorem q_oc_57 : qc_57.all (q_ok 57 qm_57) = true := by decide +kernel
set_option maxRecDepth 100000 in
theorem q_om_58 : q_okm qm_58 = true := by decide +kernel
set_option maxRecDepth 100000 in
theorem q_oc_58 : qc_58.all (q_ok 58 qm_58) = true := by decide +kernel
set_option maxRecDepth 100000 in
theorem q_om_59 : q_okm qm_59 = true := by decide +kernel
set_option maxRecDepth 100000 in
theorem q_oc_59 : qc_59.all (q_ok 59 qm_59) = true := by decide +kernel
set_option maxRecDepth 100000 in
theorem q_om_60 : q_okm qm_60 = true := by decide +kernel
set_option maxRecDepth 100000 in
theorem q_oc_60 : qc_60.all (q_ok 60 qm_60) = true := by decide +kernel
set_option maxRecDepth 100000 in
theorem q_om_61 : q_okm qm_61 = true := by decide +kernel
set_option maxRecDepth 100000 in
theorem q_oc_61 : qc_61.all (q_ok 61 qm_61) = true := by decide +kernel
set_option maxRecDepth 100000 in
theorem q_om_62 : q_okm qm_62 = true := by decide +kernel
set_option maxRecDepth 100000 in
theorem q_oc_62 : qc_62.all (q_ok 62 qm_62) = true := by decide +kernel
set_option maxRecDepth 100000 in
theorem q_om_63 : q_okm qm_63 = true := by decide +kernel
set_option maxRecDepth 100000 in
theorem q_oc_63 : qc_63.all (q_ok 63 qm_63) = true := by decide +kernel
set_option maxRecDepth 100000 in
theorem q_om_64 : q_okm qm_64 = true := by decide +kernel
set_option maxRecDepth 100000 in
theorem q_oc_64 : qc_64.all (q_ok 64 qm_64) = true := by decide +kernel
set_option maxRecDepth 100000 in
theorem q_om_65 : q_okm qm_65 = true := by decide +kernel
set_option maxRecDepth 100000 in
theorem q_oc_65 : qc_65.all (q_ok 65 qm_65) = true := by decide +kernel
set_option maxRecDepth 100000 in
theorem q_om_66 : q_okm qm_66 = true := by decide +kernel
set_option maxRecDepth 100000 in
theorem q_oc_66 : qc_66.all (q_ok 66 qm_66) = true := by decide +kernel
set_option maxRecDepth 100000 in
theorem q_om_67 : q_okm qm_67 = true := by decide +kernel
set_option maxRecDepth 100000 in
theorem q_oc_67 : qc_67.all (q_ok 67 qm_67) = true := by decide +kernel
set_option maxRecDepth 100000 in
theorem q_om_68 : q_okm qm_68 = true := by decide +kernel
set_option maxRecDepth 100000 in
theorem q_oc_68 : qc_68.all (q_ok 68 qm_68) = true := by decide +kernel
set_option maxRecDepth 100000 in
theorem q_om_69 : q_okm qm_69 = true := by decide +kernel
set_option maxRecDepth 100000 in
theorem q_oc_69 : qc_69.all (q_ok 69 qm_69) = true := by decide +kernel
set_option maxRecDepth 100000 in
theorem q_om_70 : q_okm qm_70 = true := by decide +kernel
set_option maxRecDepth 100000 in
theorem q_oc_70 : qc_70.all (q_ok 70 qm_70) = true := by decide +kernel
set_option maxRecDepth 100000 in
theorem q_om_71 : q_okm qm_71 = true := by decide +kernel
set_option maxRecDepth 100000 in
theorem q_oc_71 : qc_71.all (q_ok 71 qm_71) = true := by decide +kernel
set_option maxRecDepth 100000 in
theorem q_om_72 : q_okm qm_72 = true := by decide +kernel
set_option maxRecDepth 100000 in
theorem q_oc_72 : qc_72.all (q_ok 72 qm_72) = true := by decide +kernel
set_option maxRecDepth 100000 in
theorem q_om_73 : q_okm qm_73 = true := by decide +kernel
set_option maxRecDepth 100000 in
theorem q_oc_73 : qc_73.all (q_ok 73 qm_73) = true := by decide +kernel
set_option maxRecDepth 100000 in
theorem q_om_74 : q_okm qm_74 = true := by decide +kernel
set_option maxRecDepth 100000 in
theorem q_oc_74 : qc_74.all (q_ok 74 qm_74) = true := by decide +kernel
set_option maxRecDepth 100000 in
theorem q_om_75 : q_okm qm_75 = true := by decide +kernel
set_option maxRecDepth 100000 in
theorem q_oc_75 : qc_75.all (q_ok 75 qm_75) = true := by decide +kernel
set_option maxRecDepth 100000 in
theorem q_om_76 : q_okm qm_76 = true := by decide +kernel
set_option maxRecDepth 100000 in
theorem q_oc_76 : qc_76.all (q_ok 76 qm_76) = true := by decide +kernel
set_option maxRecDepth 100000 in
theorem q_om_77 : q_okm qm_77 = true := by decide +kernel
set_option maxRecDepth 100000 in
theorem q_oc_77 : qc_77.all (q_ok 77 qm_77) = true := by decide +kernel
set_option maxRecDepth 100000 in
theorem q_om_78 : q_okm qm_78 = true := by decide +kernel
set_option maxRecDepth 100000 in
theorem q_oc_78 : qc_78.all (q_ok 78 qm_78) = true := by decide +kernel
set_option maxRecDepth 100000 in
theorem q_om_79 : q_okm qm_79 = true := by decide +kernel
set_option maxRecDepth 100000 in
theorem q_oc_79 : qc_79.all (q_ok 79 qm_79) = true := by decide +kernel
set_option maxRecDepth 100000 in
theorem q_om_80 : q_okm qm_80 = true := by decide +kernel
set_option maxRecDepth 100000 in
theorem q_oc_80 : qc_80.all (q_ok 80 qm_80) = true := by decide +kernel
set_option maxRecDepth 100000 in
theorem q_om_81 : q_okm qm_81 = true := by decide +kernel
set_option maxRecDepth 100000 in
theorem q_oc_81 : qc_81.all (q_ok 81 qm_81) = true := by decide +kernel
set_option maxRecDepth 100000 in
theorem q_om_82 : q_okm qm_82 = true := by decide +kernel
set_option maxRecDepth 100000 in
theorem q_oc_82 : qc_82.all (q_ok 82 qm_82) = true := by decide +kernel
set_option maxRecDepth 100000 in
theorem q_om_83 : q_okm qm_83 = true := by decide +kernel
set_option maxRecDepth 100000 in
theorem q_oc_83 : qc_83.all (q_ok 83 qm_83) = true := by decide +kernel
set_option maxRecDepth 100000 in
theorem q_om_84 : q_okm qm_84 = true := by decide +kernel
set_option maxRecDepth 100000 in
theorem q_oc_84 : qc_84.all (q_ok 84 qm_84) = true := by decide +kernel
set_option maxRecDepth 100000 in
theorem q_om_85 : q_okm qm_85 = true := by decide +kernel
set_option maxRecDepth 100000 in
theorem q_oc_85 : qc_85.all (q_ok 85 qm_85) = true := by decide +kernel
set_option maxRecDepth 100000 in
theorem q_om_86 : q_okm qm_86 = true := by decide +kernel
set_option maxRecDepth 100000 in
theorem q_oc_86 : qc_86.all (q_ok 86 qm_86) = true := by decide +kernel
set_option maxRecDepth 100000 in
theorem q_om_87 : q_okm qm_87 = true := by decide +kernel
set_option maxRecDepth 100000 in
theorem q_oc_87 : qc_87.all (q_ok 87 qm_87) = true := by decide +kernel
set_option maxRecDepth 100000 in
theorem q_om_88 : q_okm qm_88 = true := by decide +kernel
set_option maxRecDepth 100000 in
theorem q_oc_88 : qc_88.all (q_ok 88 qm_88) = true := by decide +kernel
set_option maxRecDepth 100000 in
theorem q_om_89 : q_okm qm_89 = true := by decide +kernel
set_option maxRecDepth 100000 in
theorem q_oc_89 : qc_89.all (q_ok 89 qm_89) = true := by decide +kernel
set_option maxRecDepth 100000 in
theorem q_om_90 : q_okm qm_90 = true := by decide +kernel
set_option maxRecDepth 100000 in
theorem q_oc_90 : qc_90.all (q_ok 90 qm_90) = true := by decide +kernel
set_option maxRecDepth 100000 in
theorem q_om_91 : q_okm qm_91 = true := by decide +kernel
set_option maxRecDepth 100000 in
theorem q_oc_91 : qc_91.all (q_ok 91 qm_91) = true := by decide +kernel
set_option maxRecDepth 100000 in
theorem q_om_92 : q_okm qm_92 = true := by decide +kernel
set_option maxRecDepth 100000 in
theorem q_oc_92 : qc_92.all (q_ok 92 qm_92) = true := by decide +kernel
set_option maxRecDepth 100000 in
theorem q_om_93 : q_okm qm_93 = true := by decide +kernel
set_option maxRecDepth 100000 in
theorem q_oc_93 : qc_93.all (q_ok 93 qm_93) = true := by decide +kernel
set_option maxRecDepth 100000 in
theorem q_om_94 : q_okm qm_94 = true := by decide +kernel
set_option maxRecDepth 100000 in
theorem q_oc_94 : qc_94.all (q_ok 94 qm_94) = true := by decide +kernel
set_option maxRecDepth 100000 in
theorem q_om_95 : q_okm qm_95 = true := by decide +kernel
set_option maxRecDepth 100000 in
theorem q_oc_95 : qc_95.all (q_ok 95 qm_95) = true := by decide +kernel
set_option maxRecDepth 100000 in
theorem q_om_96 : q_okm qm_96 = true := by decide +kernel
set_option maxRecDepth 100000 in
theorem q_oc_96 : qc_96.all (q_ok 96 qm_96) = true := by decide +kernel
set_option maxRecDepth 100000 in
theorem q_om_97 : q_okm qm_97 = true := by decide +kernel
set_option maxRecDepth 100000 in
theorem q_oc_97 : qc_97.all (q_ok 97 qm_97) = true := by decide +kernel
set_option maxRecDepth 100000 in
theorem q_om_98 : q_okm qm_98 = true := by decide +kernel
set_option maxRecDepth 100000 in
theorem q_oc_98 : qc_98.all (q_ok 98 qm_98) = true := by decide +kernel
set_option maxRecDepth 100000 in
theorem q_om_99 : q_okm qm_99 = true := by decide +kernel
set_option maxRecDepth 100000 in
theorem q_oc_99 : qc_99.all (q_ok 99 qm_99) = true := by decide +kernel
set_option maxRecDepth 100000 in
theorem q_om_100 : q_okm qm_100 = true := by decide +kernel
set_option maxRecDepth 100000 in
theorem q_oc_100 : qc_100.all (q_ok 100 qm_100) = true := by decide +kernel
set_option maxRecDepth 100000 in
theorem q_om_101 : q_okm qm_101 = true := by decide +kernel
set_option maxRecDepth 100000 in
theorem q_oc_101 : qc_101.all (q_ok 101 qm_101) = true := by decide +kernel
set_option maxRecDepth 100000 in
theorem q_om_102 : q_okm qm_102 = true := by decide +kernel
set_option maxRecDepth 100000 in
theorem q_oc_102 : qc_102.all (q_ok 102 qm_102) = true := by decide +kernel
set_option maxRecDepth 100000 in
theorem q_om_103 : q_okm qm_103 = true := by decide +kernel
set_option maxRecDepth 100000 in
theorem q_oc_103 : qc_103.all (q_ok 103 qm_103) = true := by decide +kernel
set_option maxRecDepth 100000 in
theorem q_om_104 : q_okm qm_104 = true := by decide +kernel
set_option maxRecDepth 100000 in
theorem q_oc_104 : qc_104.all (q_ok 104 qm_104) = true := by decide +kernel
set_option maxRecDepth 100000 in
theorem q_om_105 : q_okm qm_105 = true := by decide +kernel
set_option maxRecDepth 100000 in
theorem q_oc_105 : qc_105.all (q_ok 105 qm_105) = true := by decide +kernel
set_option maxRecDepth 100000 in
theorem q_om_106 : q_okm qm_106 = true := by decide +kernel
set_option maxRecDepth 100000 in
theorem q_oc_106 : qc_106.all (q_ok 106 qm_106) = true := by decide +kernel
set_option maxRecDepth 100000 in
theorem q_om_107 : q_okm qm_107 = true := by decide +kernel
set_option maxRecDepth 100000 in
theorem q_oc_107 : qc_107.all (q_ok 107 qm_107) = true := by decide +kernel
set_option maxRecDepth 100000 in
theorem q_om_108 : q_okm qm_108 = true := by decide +kernel
set_option maxRecDepth 100000 in
theorem q_oc_108 : qc_108.all (q_ok 108 qm_108) = true := by decide +kernel
set_option maxRecDepth 100000 in
theorem q_om_109 : q_okm qm_109 = true := by decide +kernel
set_option maxRecDepth 100000 in
theorem q_oc_109 : qc_109.all (q_ok 109 qm_109) = true := by decide +kernel
set_option maxRecDepth 100000 in
theorem q_om_110 : q_okm qm_110 = true := by decide +kernel
set_option maxRecDepth 100000 in
theorem q_oc_110 : qc_110.all (q_ok 110 qm_110) = true := by decide +kernel
set_option maxRecDepth 100000 in
theorem q_om_111 : q_okm qm_111 = true := by decide +kernel
set_option maxRecDepth 100000 in
theorem q_oc_111 : qc_111.all (q_ok 111 qm_111) = true := by decide +kernel
set_option maxRecDepth 100000 in
theorem q_om_112 : q_okm qm_112 = true := by decide +kernel
set_option maxRecDepth 100000 in
theorem q_oc_112 : qc_112.all (q_ok 112 qm_112) = true := by decide +kernel
set_option maxRecDepth 100000 in
theorem q_om_113 : q_okm qm_113 = true := by decide +kernel
set_option maxRecDepth 100000 in
theorem q_oc_113 : qc_113.all (q_ok 113 qm_113) = true := by decide +kernel
set_option maxRecDepth 100000 in
theorem q_om_114 : q_okm qm_114 = true := by decide +kernel
set_option maxRecDepth 100000 in
theorem q_oc_114 : qc_114.all (q_ok 114 qm_114) = true := by decide +kernel
set_option maxRecDepth 100000 in
theorem q_om_115 : q_okm qm_115 = true := by decide +kernel
set_option maxRecDepth 100000 in
theorem q_oc_115 : qc_115.all (q_ok 115 qm_115) = true := by decide +kernel
set_option maxRecDepth 100000 in
theorem q_om_116 : q_okm qm_116 = true := by decide +kernel
set_option maxRecDepth 100000 in
theorem q_oc_116 : qc_116.all (q_ok 116 qm_116) = true := by decide +kernel
set_option maxRecDepth 100000 in
theorem q_om_117 : q_okm qm_117 = true := by decide +kernel
set_option maxRecDepth 100000 in
theorem q_oc_117 : qc_117.all (q_ok 117 qm_117) = true := by decide +kernel
set_option maxRecDepth 100000 in
theorem q_om_118 : q_okm qm_118 = true := by decide +kernel
set_option maxRecDepth 100000 in
theorem q_oc_118 : qc_118.all (q_ok 118 qm_118) = true := by decide +kernel
set_option maxRecDepth 100000 in
theorem q_om_119 : q_okm qm_119 = true := by decide +kernel
set_option maxRecDepth 100000 in
theorem q_oc_119 : qc_119.all (q_ok 119 qm_119) = true := by decide +kernel
set_option maxRecDepth 100000 in
theorem q_om_120 : q_okm qm_120 = true := by decide +kernel
set_option maxRecDepth 100000 in
theorem q_oc_120 : qc_120.all (q_ok 120 qm_120) = true := by decide +kernel
set_option maxRecDepth 100000 in
theorem q_om_121 : q_okm qm_121 = true := by decide +kernel
set_option maxRecDepth 100000 in
theorem q_oc_121 : qc_121.all (q_ok 121 qm_121) = true := by decide +kernel
set_option maxRecDepth 100000 in
theorem q_om_122 : q_okm qm_122 = true := by decide +kernel
set_option maxRecDepth 100000 in
theorem q_oc_122 : qc_122.all (q_ok 122 qm_122) = true := by decide +kernel
set_option maxRecDepth 100000 in
theorem q_om_123 : q_okm qm_123 = true := by decide +kernel
set_option maxRecDepth 100000 in
theorem q_oc_123 : qc_123.all (q_ok 123 qm_123) = true := by decide +kernel
set_option maxRecDepth 100000 in
theorem q_om_124 : q_okm qm_124 = true := by decide +kernel
set_option maxRecDepth 100000 in
theorem q_oc_124 : qc_124.all (q_ok 124 qm_124) = true := by decide +kernel
set_option maxRecDepth 100000 in
theorem q_om_125 : q_okm qm_125 = true := by decide +kernel
set_option maxRecDepth 100000 in
theorem q_oc_125 : qc_125.all (q_ok 125 qm_125) = true := by decide +kernel
set_option maxRecDepth 100000 in
theorem q_om_126 : q_okm qm_126 = true := by decide +kernel
set_option maxRecDepth 100000 in
theorem q_oc_126 : qc_126.all (q_ok 126 qm_126) = true := by decide +kernel
set_option maxRecDepth 100000 in
theorem q_om_127 : q_okm qm_127 = true := by decide +kernel
set_option maxRecDepth 100000 in
theorem q_oc_127 : qc_127.all (q_ok 127 qm_127) = true := by decide +kernel
set_option maxRecDepth 100000 in
theorem q_om_128 : q_okm qm_128 = true := by decide +kernel
set_option maxRecDepth 100000 in
theorem q_oc_128 : qc_128.all (q_ok 128 qm_128) = true := by decide +kernel
set_option maxRecDepth 100000 in
theorem q_om_129 : q_okm qm_129 = true := by decide +kernel
set_option maxRecDepth 100000 in
theorem q_oc_129 : qc_129.all (q_ok 129 qm_129) = true := by decide +kernel
set_option maxRecDepth 100000 in
theorem q_om_130 : q_okm qm_130 = true := by decide +kernel
set_option maxRecDepth 100000 in
theorem q_oc_130 : qc_130.all (q_ok 130 qm_130) = true := by decide +kernel
set_option maxRecDepth 100000 in
theorem q_om_131 : q_okm qm_131 = true := by decide +kernel
set_option maxRecDepth 100000 in
theorem q_oc_131 : qc_131.all (q_ok 131 qm_131) = true := by decide +kernel
set_option maxRecDepth 100000 in
theorem q_om_132 : q_okm qm_132 = true := by decide +kernel
set_option maxRecDepth 100000 in
theorem q_oc_132 : qc_132.all (q_ok 132 qm_132) = true := by decide +kernel
set_option maxRecDepth 100000 in
theorem q_om_133 : q_okm qm_133 = true := by decide +kernel
set_option maxRecDepth 100000 in
theorem q_oc_133 : qc_133.all (q_ok 133 qm_133) = true := by decide +kernel
set_option maxRecDepth 100000 in
theorem q_om_134 : q_okm qm_134 = true := by decide +kernel
set_option maxRecDepth 100000 in
theorem q_oc_134 : qc_134.all (q_ok 134 qm_134) = true := by decide +kernel
set_option maxRecDepth 100000 in
theorem q_om_135 : q_okm qm_135 = true := by decide +kernel
set_option maxRecDepth 100000 in
theorem q_oc_135 : qc_135.all (q_ok 135 qm_135) = true := by decide +kernel
set_option maxRecDepth 100000 in
theorem q_om_136 : q_okm qm_136 = true := by decide +kernel
set_option maxRecDepth 100000 in
theorem q_oc_136 : qc_136.all (q_ok 136 qm_136) = true := by decide +kernel
set_option maxRecDepth 100000 in
theorem q_om_137 : q_okm qm_137 = true := by decide +kernel
set_option maxRecDepth 100000 in
theorem q_oc_137 : qc_137.all (q_ok 137 qm_137) = true := by decide +kernel
set_option maxRecDepth 100000 in
theorem q_om_138 : q_okm qm_138 = true := by decide +kernel
set_option maxRecDepth 100000 in
theorem q_oc_138 : qc_138.all (q_ok 138 qm_138) = true := by decide +kernel
set_option maxRecDepth 100000 in
theorem q_om_139 : q_okm qm_139 = true := by decide +kernel
set_option maxRecDepth 100000 in
theorem q_oc_139 : qc_139.all (q_ok 139 qm_139) = true := by decide +kernel
set_option maxRecDepth 100000 in
theorem q_om_140 : q_okm qm_140 = true := by decide +kernel
set_option maxRecDepth 100000 in
theorem q_oc_140 : qc_140.all (q_ok 140 qm_140) = true := by decide +kernel
set_option maxRecDepth 100000 in
theorem q_om_141 : q_okm qm_141 = true := by decide +kernel
set_option maxRecDepth 100000 in
theorem q_oc_141 : qc_141.all (q_ok 141 qm_141) = true := by decide +kernel
set_option maxRecDepth 100000 in
theorem q_om_142 : q_okm qm_142 = true := by decide +kernel
set_option maxRecDepth 100000 in
theorem q_oc_142 : qc_142.all (q_ok 142 qm_142) = true := by decide +kernel
set_option maxRecDepth 100000 in
theorem q_om_143 : q_okm qm_143 = true := by decide +kernel
set_option maxRecDepth 100000 in
theorem q_oc_143 : qc_143.all (q_ok 143 qm_143) = true := by decide +kernel
set_option maxRecDepth 100000 in
theorem q_om_144 : q_okm qm_144 = true := by decide +kernel
set_option maxRecDepth 100000 in
theorem q_oc_144 : qc_144.all (q_ok 144 qm_144) = true := by decide +kernel
set_option maxRecDepth 100000 in
theorem q_om_145 : q_okm qm_145 = true := by decide +kernel
set_option maxRecDepth 100000 in
theorem q_oc_145 : qc_145.all (q_ok 145 qm_145) = true := by decide +kernel
set_option maxRecDepth 100000 in
theorem q_om_146 : q_okm qm_146 = true := by decide +kernel
set_option maxRecDepth 100000 in
theorem q_oc_146 : qc_146.all (q_ok 146 qm_146) = true := by decide +kernel
set_option maxRecDepth 100000 in
theorem q_om_147 : q_okm qm_147 = true := by decide +kernel
set_option maxRecDepth 100000 in
theorem q_oc_147 : qc_147.all (q_ok 147 qm_147) = true := by decide +kernel
set_option maxRecDepth 100000 in
theorem q_om_148 : q_okm qm_148 = true := by decide +kernel
set_option maxRecDepth 100000 in
theorem q_oc_148 : qc_148.all (q_ok 148 qm_148) = true := by decide +kernel
set_option maxRecDepth 100000 in
theorem q_om_149 : q_okm qm_149 = true := by decide +kernel
set_option maxRecDepth 100000 in
theorem q_oc_149 : qc_149.all (q_ok 149 qm_149) = true := by decide +kernel
set_option maxRecDepth 100000 in
theorem q_om_150 : q_okm qm_150 = true := by decide +kernel
set_option maxRecDepth 100000 in
theorem q_oc_150 : qc_150.all (q_ok 150 qm_150) = true := by decide +kernel
set_option maxRecDepth 100000 in
theorem q_om_151 : q_okm qm_151 = true := by decide +kernel
set_option maxRecDepth 100000 in
theorem q_oc_151 : qc_151.all (q_ok 151 qm_151) = true := by decide +kernel
set_option maxRecDepth 100000 in
theorem q_om_152 : q_okm qm_152 = true := by decide +kernel
set_option maxRecDepth 100000 in
theorem q_oc_152 : qc_152.all (q_ok 152 qm_152) = true := by decide +kernel
set_option maxRecDepth 100000 in
theorem q_om_153 : q_okm qm_153 = true := by decide +kernel
set_option maxRecDepth 100000 in
theorem q_oc_153 : qc_153.all (q_ok 153 qm_153) = true := by decide +kernel
set_option maxRecDepth 100000 in
theorem q_om_154 : q_okm qm_154 = true := by decide +kernel
set_option maxRecDepth 100000 in
theorem q_oc_154 : qc_154.all (q_ok 154 qm_154) = true := by decide +kernel
set_option maxRecDepth 100000 in
theorem q_om_155 : q_okm qm_155 = true := by decide +kernel
set_option maxRecDepth 100000 in
theorem q_oc_155 : qc_155.all (q_ok 155 qm_155) = true := by decide +kernel
set_option maxRecDepth 100000 in
theorem q_om_156 : q_okm qm_156 = true := by decide +kernel
set_option maxRecDepth 100000 in
theorem q_oc_156 : qc_156.all (q_ok 156 qm_156) = true := by decide +kernel
set_option maxRecDepth 100000 in
theorem q_om_157 : q_okm qm_157 = true := by decide +kernel
set_option maxRecDepth 100000 in
theorem q_oc_157 : qc_157.all (q_ok 157 qm_157) = true := by decide +kernel
set_option maxRecDepth 100000 in
theorem q_om_158 : q_okm qm_158 = true := by decide +kernel
set_option maxRecDepth 100000 in
theorem q_oc_158 : qc_158.all (q_ok 158 qm_158) = true := by decide +kernel
set_option maxRecDepth 100000 in
theorem q_oc_159 : qc_159.all (q_ok 159 qm_159) = true := by decide +kernel
theorem q_all_ok : ∀ k, k < 159 → q_okm (q_ms k) = true ∧ (q_ms k).2.2.2.all (q_ok k (q_ms k)) = true := fun k h => match k, h with
  | 0, _ => ⟨q_om_0, q_oc_0⟩
  | 1, _ => ⟨q_om_1, q_oc_1⟩
  | 2, _ => ⟨q_om_2, q_oc_2⟩
  | 3, _ => ⟨q_om_3, q_oc_3⟩
  | 4, _ => ⟨q_om_4, q_oc_4⟩
  | 5, _ => ⟨q_om_5, q_oc_5⟩
  | 6, _ => ⟨q_om_6, q_oc_6⟩
  | 7, _ => ⟨q_om_7, q_oc_7⟩
  | 8, _ => ⟨q_om_8, q_oc_8⟩
  | 9, _ => ⟨q_om_9, q_oc_9⟩
  | 10, _ => ⟨q_om_10, q_oc_10⟩
  | 11, _ => ⟨q_om_11, q_oc_11⟩
  | 12, _ => ⟨q_om_12, q_oc_12⟩
  | 13, _ => ⟨q_om_13, q_oc_13⟩
  | 14, _ => ⟨q_om_14, q_oc_14⟩
  | 15, _ => ⟨q_om_15, q_oc_15⟩
  | 16, _ => ⟨q_om_16, q_oc_16⟩
  | 17, _ => ⟨q_om_17, q_oc_17⟩
  | 18, _ => ⟨q_om_18, q_oc_18⟩
  | 19, _ => ⟨q_om_19, q_oc_19⟩
  | 20, _ => ⟨q_om_20, q_oc_20⟩
  | 21, _ => ⟨q_om_21, q_oc_21⟩
  | 22, _ => ⟨q_om_22, q_oc_22⟩
  | 23, _ => ⟨q_om_23, q_oc_23⟩
  | 24, _ => ⟨q_om_24, q_oc_24⟩
  | 25, _ => ⟨q_om_25, q_oc_25⟩
  | 26, _ => ⟨q_om_26, q_oc_26⟩
  | 27, _ => ⟨q_om_27, q_oc_27⟩
  | 28, _ => ⟨q_om_28, q_oc_28⟩
  | 29, _ => ⟨q_om_29, q_oc_29⟩
  | 30, _ => ⟨q_om_30, q_oc_30⟩
  | 31, _ => ⟨q_om_31, q_oc_31⟩
  | 32, _ => ⟨q_om_32, q_oc_32⟩
  | 33, _ => ⟨q_om_33, q_oc_33⟩
  | 34, _ => ⟨q_om_34, q_oc_34⟩
  | 35, _ => ⟨q_om_35, q_oc_35⟩
  | 36, _ => ⟨q_om_36, q_oc_36⟩
  | 37, _ => ⟨q_om_37, q_oc_37⟩
  | 38, _ => ⟨q_om_38, q_oc_38⟩
  | 39, _ => ⟨q_om_39, q_oc_39⟩
  | 40, _ => ⟨q_om_40, q_oc_40⟩
  | 41, _ => ⟨q_om_41, q_oc_41⟩
  | 42, _ => ⟨q_om_42, q_oc_42⟩
  | 43, _ => ⟨q_om_43, q_oc_43⟩
  | 44, _ => ⟨q_om_44, q_oc_44⟩
  | 45, _ => ⟨q_om_45, q_oc_45⟩
  | 46, _ => ⟨q_om_46, q_oc_46⟩
  | 47, _ => ⟨q_om_47, q_oc_47⟩
  | 48, _ => ⟨q_om_48, q_oc_48⟩
  | 49, _ => ⟨q_om_49, q_oc_49⟩
  | 50, _ => ⟨q_om_50, q_oc_50⟩
  | 51, _ => ⟨q_om_51, q_oc_51⟩
  | 52, _ => ⟨q_om_52, q_oc_52⟩
  | 53, _ => ⟨q_om_53, q_oc_53⟩
  | 54, _ => ⟨q_om_54, q_oc_54⟩
  | 55, _ => ⟨q_om_55, q_oc_55⟩
  | 56, _ => ⟨q_om_56, q_oc_56⟩
  | 57, _ => ⟨q_om_57, q_oc_57⟩
  | 58, _ => ⟨q_om_58, q_oc_58⟩
  | 59, _ => ⟨q_om_59, q_oc_59⟩
  | 60, _ => ⟨q_om_60, q_oc_60⟩
  | 61, _ => ⟨q_om_61, q_oc_61⟩
  | 62, _ => ⟨q_om_62, q_oc_62⟩
  | 63, _ => ⟨q_om_63, q_oc_63⟩
  | 64, _ => ⟨q_om_64, q_oc_64⟩
  | 65, _ => ⟨q_om_65, q_oc_65⟩
  | 66, _ => ⟨q_om_66, q_oc_66⟩
  | 67, _ => ⟨q_om_67, q_oc_67⟩
  | 68, _ => ⟨q_om_68, q_oc_68⟩
  | 69, _ => ⟨q_om_69, q_oc_69⟩
  | 70, _ => ⟨q_om_70, q_oc_70⟩
  | 71, _ => ⟨q_om_71, q_oc_71⟩
  | 72, _ => ⟨q_om_72, q_oc_72⟩
  | 73, _ => ⟨q_om_73, q_oc_73⟩
  | 74, _ => ⟨q_om_74, q_oc_74⟩
  | 75, _ => ⟨q_om_75, q_oc_75⟩
  | 76, _ => ⟨q_om_76, q_oc_76⟩
  | 77, _ => ⟨q_om_77, q_oc_77⟩
  | 78, _ => ⟨q_om_78, q_oc_78⟩
  | 79, _ => ⟨q_om_79, q_oc_79⟩
  | 80, _ => ⟨q_om_80, q_oc_80⟩
  | 81, _ => ⟨q_om_81, q_oc_81⟩
  | 82, _ => ⟨q_om_82, q_oc_82⟩
  | 83, _ => ⟨q_om_83, q_oc_83⟩
  | 84, _ => ⟨q_om_84, q_oc_84⟩
  | 85, _ => ⟨q_om_85, q_oc_85⟩
  | 86, _ => ⟨q_om_86, q_oc_86⟩
  | 87, _ => ⟨q_om_87, q_oc_87⟩
  | 88, _ => ⟨q_om_88, q_oc_88⟩
  | 89, _ => ⟨q_om_89, q_oc_89⟩
  | 90, _ => ⟨q_om_90, q_oc_90⟩
  | 91, _ => ⟨q_om_91, q_oc_91⟩
  | 92, _ => ⟨q_om_92, q_oc_92⟩
  | 93, _ => ⟨q_om_93, q_oc_93⟩
  | 94, _ => ⟨q_om_94, q_oc_94⟩
  | 95, _ => ⟨q_om_95, q_oc_95⟩
  | 96, _ => ⟨q_om_96, q_oc_96⟩
  | 97, _ => ⟨q_om_97, q_oc_97⟩
  | 98, _ => ⟨q_om_98, q_oc_98⟩
  | 99, _ => ⟨q_om_99, q_oc_99⟩
  | 100, _ => ⟨q_om_100, q_oc_100⟩
  | 101, _ => ⟨q_om_101, q_oc_101⟩
  | 102, _ => ⟨q_om_102, q_oc_102⟩
  | 103, _ => ⟨q_om_103, q_oc_103⟩
  | 104, _ => ⟨q_om_104, q_oc_104⟩
  | 105, _ => ⟨q_om_105, q_oc_105⟩
  | 106, _ => ⟨q_om_106, q_oc_106⟩
  | 107, _ => ⟨q_om_107, q_oc_107⟩
  | 108, _ => ⟨q_om_108, q_oc_108⟩
  | 109, _ => ⟨q_om_109, q_oc_109⟩
  | 110, _ => ⟨q_om_110, q_oc_110⟩
  | 111, _ => ⟨q_om_111, q_oc_111⟩
  | 112, _ => ⟨q_om_112, q_oc_112⟩
  | 113, _ => ⟨q_om_113, q_oc_113⟩
  | 114, _ => ⟨q_om_114, q_oc_114⟩
  | 115, _ => ⟨q_om_115, q_oc_115⟩
  | 116, _ => ⟨q_om_116, q_oc_116⟩
  | 117, _ => ⟨q_om_117, q_oc_117⟩
  | 118, _ => ⟨q_om_118, q_oc_118⟩
  | 119, _ => ⟨q_om_119, q_oc_119⟩
  | 120, _ => ⟨q_om_120, q_oc_120⟩
  | 121, _ => ⟨q_om_121, q_oc_121⟩
  | 122, _ => ⟨q_om_122, q_oc_122⟩
  | 123, _ => ⟨q_om_123, q_oc_123⟩
  | 124, _ => ⟨q_om_124, q_oc_124⟩
  | 125, _ => ⟨q_om_125, q_oc_125⟩
  | 126, _ => ⟨q_om_126, q_oc_126⟩
  | 127, _ => ⟨q_om_127, q_oc_127⟩
  | 128, _ => ⟨q_om_128, q_oc_128⟩
  | 129, _ => ⟨q_om_129, q_oc_129⟩
  | 130, _ => ⟨q_om_130, q_oc_130⟩
  | 131, _ => ⟨q_om_131, q_oc_131⟩
  | 132, _ => ⟨q_om_132, q_oc_132⟩
  | 133, _ => ⟨q_om_133, q_oc_133⟩
  | 134, _ => ⟨q_om_134, q_oc_134⟩
  | 135, _ => ⟨q_om_135, q_oc_135⟩
  | 136, _ => ⟨q_om_136, q_oc_136⟩
  | 137, _ => ⟨q_om_137, q_oc_137⟩
  | 138, _ => ⟨q_om_138, q_oc_138⟩
  | 139, _ => ⟨q_om_139, q_oc_139⟩
  | 140, _ => ⟨q_om_140, q_oc_140⟩
  | 141, _ => ⟨q_om_141, q_oc_141⟩
  | 142, _ => ⟨q_om_142, q_oc_142⟩
  | 143, _ => ⟨q_om_143, q_oc_143⟩
  | 144, _ => ⟨q_om_144, q_oc_144⟩
  | 145, _ => ⟨q_om_145, q_oc_145⟩
  | 146, _ => ⟨q_om_146, q_oc_146⟩
  | 147, _ => ⟨q_om_147, q_oc_147⟩
  | 148, _ => ⟨q_om_148, q_oc_148⟩
  | 149, _ => ⟨q_om_149, q_oc_149⟩
  | 150, _ => ⟨q_om_150, q_oc_150⟩
  | 151, _ => ⟨q_om_151, q_oc_151⟩
  | 152, _ => ⟨q_om_152, q_oc_152⟩
  | 153, _ => ⟨q_om_153, q_oc_153⟩
  | 154, _ => ⟨q_om_154, q_oc_154⟩
  | 155, _ => ⟨q_om_155, q_oc_155⟩
  | 156, _ => ⟨q_om_156, q_oc_156⟩
  | 157, _ => ⟨q_om_157, q_oc_157⟩
  | 158, _ => ⟨q_om_158, q_oc_158⟩
  | n + 159, h => absurd h (by omega)
end
section
/-! ===== the relation between the pure heap and the machine's, and the rows that make or change a cell ===== -/
def q_tys (cy : Nat → ClassId) : List (ClassId × FieldType) := [(cy 0, .char), (cy 1, .int), (cy 2, .long), (cy 3, .boolean), (cy 4, .object RX0)]
def q_cell (D : va_G) (cy : Nat → ClassId) (lo : Nat) (U : State) (H : Heap) (a : Nat) (e : qE) : Prop := match e with
  | .inl o => va_at D vwCl (a, .inr o) H ∧ lo ≤ a
  | .inr x => (x.1 = 9 ∧ ∃ f, x.2.2 = .inl f ∧ va_X a x.2.1 f U H) ∨ (x.1 < 5 ∧ va_at D vwCl (a, .inl (cy x.1, x.2)) H ∧ lo ≤ a)
def q_W (D : va_G) (cy : Nat → ClassId) (lo : Nat) (σ : qH) (U : State) (H : Heap) : Prop := H.size = σ.2.1 ∧ ∀ (a : Nat) (e : qE), σ.1 a = some e → q_cell D cy lo U H a e
def q_KK (D : va_G) (cy : Nat → ClassId) (U : State) : Prop := va_K D vwCl (q_tys cy) U ∧ (∀ w ∈ q_nest, va_Nw w U) ∧ va_AO RX0 U
theorem q_cell.lt {D : va_G} {cy : Nat → ClassId} {lo : Nat} {U : State} {H : Heap} {a : Nat} {e : qE} (h : q_cell D cy lo U H a e) : a < H.size := by
  cases e with
  | inl o => exact h.1.lt
  | inr x =>
    rcases h with ⟨-, f, -, scr, h1, -⟩ | ⟨-, h1, -⟩
    · exact (Array.getElem?_eq_some_iff.mp h1).1
    · exact h1.lt
theorem q_cell.kept {D : va_G} {cy : Nat → ClassId} {lo : Nat} {U : State} {H H1 : Heap} {a : Nat} {e : qE} (h : q_cell D cy lo U H a e) (hq : H1[a]? = H[a]?) : q_cell D cy lo U H1 a e := by
  cases e with
  | inl o => exact ⟨h.1.kept hq, h.2⟩
  | inr x =>
    rcases h with ⟨h0, f, h1, h2⟩ | ⟨h0, h1, h2⟩
    · exact Or.inl ⟨h0, f, h1, h2.kept hq⟩
    · exact Or.inr ⟨h0, h1.kept hq, h2⟩
theorem q_cell.moved {D : va_G} {cy : Nat → ClassId} {lo : Nat} {u U : State} {H : Heap} {a : Nat} {e : qE} (hvm : u.vm.Alike U.vm) (h : q_cell D cy lo u H a e) : q_cell D cy lo U H a e := by
  cases e with
  | inl o => exact h
  | inr x =>
    rcases h with ⟨h0, f, h1, h2⟩ | h
    · exact Or.inl ⟨h0, f, h1, h2.moved hvm⟩
    · exact Or.inr h
theorem q_W.moved {D : va_G} {cy : Nat → ClassId} {lo : Nat} {σ : qH} {u U : State} {H : Heap} (hvm : u.vm.Alike U.vm) (h : q_W D cy lo σ u H) : q_W D cy lo σ U H := ⟨h.1, fun a e he => (h.2 a e he).moved hvm⟩
theorem q_W.upd {D : va_G} {cy : Nat → ClassId} {lo : Nat} {σ : qH} {U : State} {H H1 : Heap} {a : Nat} {e : qE} (h : q_W D cy lo σ U H) (hz : H1.size = H.size) (ho : ∀ q : Nat, q ≠ a → H1[q]? = H[q]?) (he : q_cell D cy lo U H1 a e) : q_W D cy lo (q_upd σ a e) U H1 := by
  refine ⟨hz.trans h.1, fun b e' hb => ?_⟩
  unfold q_upd at hb
  dsimp only at hb
  split at hb
  · next hba => cases hb; rw [hba]; exact he
  · next hba => exact (h.2 b e' hb).kept (ho b hba)
theorem q_W.new {D : va_G} {cy : Nat → ClassId} {lo n : Nat} {σ : qH} {U : State} {H H1 : Heap} {e : qE} (h : q_W D cy lo σ U H) (hz : H1.size = H.size + 1) (ho : ∀ q : Nat, q < H.size → H1[q]? = H[q]?) (he : q_cell D cy lo U H1 H.size e) : q_W D cy lo (q_new σ e n) U H1 := by
  refine ⟨by rw [hz, h.1]; rfl, fun b e' hb => ?_⟩
  unfold q_new at hb
  dsimp only at hb
  split at hb
  · next hba => cases hb; rw [hba, ← h.1]; exact he
  · next hba => exact (h.2 b e' hb).kept (ho b (h.2 b e' hb).lt)
theorem q_W.same {D : va_G} {cy : Nat → ClassId} {lo : Nat} {σ : qH} {U : State} {H H1 : Heap} (h : q_W D cy lo σ U H) (e : H1 = H) : q_W D cy lo σ U H1 := e ▸ h
theorem q_cls_at : ∀ ci, ci < 8 → vwCl[ci]? = some (q_cls ci) := fun ci h => match ci, h with
  | 0, _ => rfl
  | 1, _ => rfl
  | 2, _ => rfl
  | 3, _ => rfl
  | 4, _ => rfl
  | 5, _ => rfl
  | 6, _ => rfl
  | 7, _ => rfl
  | n + 8, h => absurd h (by omega)
def q_lp (ci : Nat) : List Nat := match ci with
  | 0 => [1102, 1104, 1106, 1108, 1110, 1112]
  | 1 => [1152, 1154, 1156, 1158, 1160, 1162, 1164]
  | 2 => [1128, 1130, 1132]
  | 3 => [1060, 1062, 1064, 1066, 1068, 1070, 1072, 1074, 1076, 1078]
  | 4 => [2021, 2023, 2025, 2027, 2029, 2031, 2033, 2035, 2037]
  | 5 => [1180, 1182, 1184, 1186, 1188]
  | 6 => [1204, 1206, 1208, 1210, 1212, 1214, 1216, 1218, 1220, 1222, 1224]
  | _ => [4002, 4004, 4006, 4008, 4010, 4012, 4014, 4016, 4018, 4020, 4022, 4024, 4026, 4028, 4030, 4032, 4034, 4036, 4038]
def q_layok (ci : Nat) : Bool := (List.range (q_cls ci).2.2).all fun j => q_gd ((q_lp ci).getD j 0) (u_lay (q_cls ci).1 (q_cls ci).2.1 j)
set_option maxRecDepth 100000 in
theorem q_layok_all : (List.range 8).all q_layok = true := by decide +kernel
theorem q_lays (ci : Nat) (h : ci < 8) : ∀ w ∈ u_ws (q_cls ci).1 (q_cls ci).2.1 (q_cls ci).2.2, w ∈ q_WS := by
  intro w hw
  have h1 := List.all_eq_true.mp q_layok_all ci (List.mem_range.mpr h)
  obtain ⟨j, hj, rfl⟩ := List.mem_map.mp hw
  exact q_gd_in (List.all_eq_true.mp h1 j hj)
def q_ftok (ci : Nat) : Bool := (List.range (q_cls ci).2.2).all fun j => decide (parseFieldDescriptor ((q_cls ci).2.1 j).2.2.1 = some (q_fty ci j)) && decide (defaultValue (q_fty ci j) = vp_V (q_dfl ci) j) && (List.range (q_cls ci).2.2).all fun b => decide (j = b ∨ ((q_cls ci).2.1 j).2.1 ≠ ((q_cls ci).2.1 b).2.1)
set_option maxRecDepth 100000 in
theorem q_ftok_all : (List.range 8).all q_ftok = true := by decide +kernel
theorem q_fts (ci : Nat) (h : ci < 8) : (∀ k, k < (q_cls ci).2.2 → parseFieldDescriptor ((q_cls ci).2.1 k).2.2.1 = some (q_fty ci k)) ∧ (∀ k, k < (q_cls ci).2.2 → defaultValue (q_fty ci k) = vp_V (q_dfl ci) k) ∧ (∀ a, a < (q_cls ci).2.2 → ∀ b, b < (q_cls ci).2.2 → a ≠ b → ((q_cls ci).2.1 a).2.1 ≠ ((q_cls ci).2.1 b).2.1) := by
  have h1 := List.all_eq_true.mp q_ftok_all ci (List.mem_range.mpr h)
  refine ⟨fun k hk => ?_, fun k hk => ?_, fun a ha b hb hab => ?_⟩
  · have h2 := List.all_eq_true.mp h1 k (List.mem_range.mpr hk)
    rw [Bool.and_eq_true, Bool.and_eq_true] at h2
    exact of_decide_eq_true h2.1.1
  · have h2 := List.all_eq_true.mp h1 k (List.mem_range.mpr hk)
    rw [Bool.and_eq_true, Bool.and_eq_true] at h2
    exact of_decide_eq_true h2.1.2
  · have h2 := List.all_eq_true.mp h1 a (List.mem_range.mpr ha)
    rw [Bool.and_eq_true, Bool.and_eq_true] at h2
    rcases of_decide_eq_true (List.all_eq_true.mp h2.2 b (List.mem_range.mpr hb)) with h3 | h3
    · exact absurd h3 hab
    · exact h3
theorem q_objw : q_gd 1018 (.instanceMethod objectInit) = true ∧ q_gd 1019 (.code objectInit ⟨#[0xb1]⟩ 1 none) = true := by decide +kernel
theorem q_one {D : va_G} {cl : List vw_C} {q : Nat × va_E} {H : Heap} (h : va_at D cl q H) : va_P D cl [q] H := by
  intro k x hk
  cases k with
  | zero => cases hk; exact h
  | succ k => simp at hk
section QR
variable {p : Program} {l : Launch} {e : Env} {R : Room} {s : State} {m : MethodId} {args : Array Value} {below : List Frame} {meth : Method} {c : Code} {H : Heap} {locs : List Loc} {cells slots : Nat} {Q : State → Prop}
variable {cc : ByteArray} {pc : Nat} {ls : Array Slot} {rest : List Value} {D : va_G} {cy : Nat → ClassId} {A : Nat → Prop} {a : Nat} {H0 : Heap}
theorem q_rget (hx : p.tables.exec = Jvm.exec) (hb : c.code = cc) {own : String} {ci j index : Nat} (hts : ∀ w ∈ q_WS, w.before args s = true) (hown : s.vm.findClass own = some m.cls) (hK : va_K D vwCl (q_tys cy) s) {fs : List Value} (hat : va_at D vwCl (a, .inr (ci, fs)) H) (hci : ci < 8) (hj : j < (q_cls ci).2.2)
    (hlink : (Cond.fieldLink own index ((q_cls ci).2.1 j).1 ((q_cls ci).2.1 j).2.1 ((q_cls ci).2.1 j).2.2.1) ∈ q_WS) {v : Value} (hv : fs[j]? = some v) (hdg : decode cc pc = .ok (.getfield index, 3))
    (kk : W p l e R s m args below meth c H locs cells slots Q (F0 m (pc + 3) ls (v :: rest))) : W p l e R s m args below meth c H locs cells slots Q (F0 m pc ls (.ref a :: rest)) :=
  va_get (ws := [(a, .inr (ci, fs))]) (C := (q_cls ci).1) (T := (q_cls ci).2.1) (N := (q_cls ci).2.2) hx hb hts (q_lays ci hci) hown hK (q_one hat) 0 rfl (q_cls_at ci hci) j hj (hts _ hlink) (fun _ h => h) hv hdg kk
theorem q_rput (hx : p.tables.exec = Jvm.exec) (hb : c.code = cc) {own : String} {ci j index : Nat} (hts : ∀ w ∈ q_WS, w.before args s = true) (hown : s.vm.findClass own = some m.cls) (hK : va_K D vwCl (q_tys cy) s) {fs : List Value} (hat : va_at D vwCl (a, .inr (ci, fs)) H) (hS : va_S A H0 H locs) (ha : A a) (hci : ci < 8) (hj : j < (q_cls ci).2.2)
    (hlink : (Cond.fieldLink own index ((q_cls ci).2.1 j).1 ((q_cls ci).2.1 j).2.1 ((q_cls ci).2.1 j).2.2.1) ∈ q_WS) {v : Value} (hfin : ((q_cls ci).2.1 j).2.2.2 = true → meth.name = "<init>" ∧ ((q_cls ci).2.1 j).1 = own) (hn : narrow (q_fty ci j) v = v) (hfit : fits (q_fty ci j) v = true) (hl : j < fs.length) (hdg : decode cc pc = .ok (.putfield index, 3))
    (kk : ∀ (H1 : Heap) (locs1 : List Loc), va_at D vwCl (a, .inr (ci, fs.set j v)) H1 → H1.size = H.size → (∀ q : Nat, q ≠ a → H1[q]? = H[q]?) → va_S A H0 H1 locs1 → W p l e R s m args below meth c H1 locs1 cells slots Q (F0 m (pc + 3) ls rest)) : W p l e R s m args below meth c H locs cells slots Q (F0 m pc ls (v :: .ref a :: rest)) := by
  obtain ⟨hft, -, hnm⟩ := q_fts ci hci
  have hc := q_cls_at ci hci
  have hlays := u_lays (args := args) (s := s) hts (q_lays ci hci) hj
  have hap := va_apart (own := own) (D := D) (cl := vwCl) (tys := q_tys cy) hts (q_lays ci hci) (q_fty ci) hft hnm hK hc
  obtain ⟨r, h1, cell, q1, q2, q3, q4⟩ := hat
  have hr : r = q_cls ci := Option.some.inj (h1.symm.trans hc)
  subst hr
  obtain ⟨hSl, hfc, kC, hkC, hkind⟩ := hK.1 ci _ hc
  obtain ⟨cf, kf, fi, f, hi, hsl⟩ := hSl j hj
  have hst := (u_facts hfc hkC hlays hi).1
  have fin : ∀ (H1 : Heap), H1[a]? = some (cell.setSlot f.slot v) → H1.size = H.size → (∀ q, q ≠ a → H1[q]? = H[q]?) → W p l e R s m args below meth c H1 (locs ++ [⟨a, f.slot⟩]) cells slots Q (F0 m (pc + 3) ls rest) := by
    intro H1 e1 e2 e3
    rw [hsl] at e1 ⊢
    exact kk H1 _ ⟨_, hc, t_OB.to (V := updV (vp_V fs) j v) ⟨_, e1, q2, q3, t_set q4 hap hj v⟩ (fun i _ => vp_updV_set hl v i)⟩ e2 e3 (hS.put e2 e3 ha)
  by_cases hf : ((q_cls ci).2.1 j).2.2.2 = true
  · obtain ⟨hin, hdecl⟩ := hfin hf
    have hlay := hts _ (q_lays ci hci _ (u_in_lay hj))
    unfold u_lay at hlay
    rw [if_pos hf] at hlay
    have hcf : m.cls = cf := by
      obtain ⟨_, _, c', _, _, _, -, -, hf', -, -, -, hown2, -⟩ := Cond.laysFinal_spec hlay
      have e1 : c' = cf := by have := hi.symm.trans hf'; simp at this; exact this.1.symm
      rw [hdecl] at hown2
      rw [← e1]; exact Option.some.inj (hown.symm.trans hown2)
    have h6 := u_fits hfc hkC hkind (Or.inr hlay) hi (hft j hj) hn hfit
    exact W.putFinK hx hb hown (hts _ hlink) hi hst hcf hin (by rw [q2]; exact h6) q1 q3 (by rw [hsl]; exact k2_hasslot (q4 j hj)) rfl rfl hdg fin
  · have hlay := hts _ (q_lays ci hci _ (u_in_lay hj))
    unfold u_lay at hlay
    rw [if_neg hf] at hlay
    have h6 := u_store hfc hkC hkind hlay hi (hft j hj) hn hfit
    exact W.putK hx hb (f := f) ⟨hown, hts _ hlink, ⟨_, _, _, hi⟩, hst⟩ (by rw [q2]; exact h6) q1 q3 (by rw [hsl]; exact k2_hasslot (q4 j hj)) rfl rfl hdg fin
theorem q_rnew (hx : p.tables.exec = Jvm.exec) (hb : c.code = cc) {own : String} {ci index : Nat} (hts : ∀ w ∈ q_WS, w.before args s = true) (hown : s.vm.findClass own = some m.cls) (hK : va_K D vwCl (q_tys cy) s) (hS : va_S A H0 H locs) (hci : ci < 8)
    (hcl : Cond.classLink own index (q_cls ci).1 ∈ q_WS) (hinst : Cond.instantiable (q_cls ci).1 (q_cls ci).2.2 ∈ q_WS) (hini : Cond.initialized (q_cls ci).1 ∈ q_WS) (hcells : cells + 1 ≤ R.cells) (hslots : slots + (q_cls ci).2.2 ≤ R.slots) (hdg : decode cc pc = .ok (.new index, 3))
    (kk : ∀ H1 : Heap, va_at D vwCl (H.size, .inr (ci, q_dfl ci)) H1 → H1.size = H.size + 1 → (∀ q : Nat, q < H.size → H1[q]? = H[q]?) → va_S A H0 H1 locs → W p l e R s m args below meth c H1 locs (cells + 1) (slots + (q_cls ci).2.2) Q (F0 m (pc + 3) ls (.ref H.size :: rest))) : W p l e R s m args below meth c H locs cells slots Q (F0 m pc ls rest) := by
  obtain ⟨hft, hdf, -⟩ := q_fts ci hci
  have hc := q_cls_at ci hci
  have hKn := hK.1 ci _ hc
  refine W.newcK hx hb hown (hts _ hcl) (hts _ hinst) (hts _ hini) rfl hdg hcells hslots hKn.2.1 rfl fun H1 kC hkC e1 z1 o1 => ?_
  exact kk H1 ⟨_, hc, (u_born (q_fty ci) hts (q_lays ci hci) hKn hkC e1 hft).to hdf⟩ z1 o1 ⟨Nat.le_trans hS.1 (by omega), fun x h1 h2 => (o1 x (Nat.lt_of_lt_of_le h1 hS.1)).trans (hS.2.1 x h1 h2), hS.2.2⟩
theorem q_rnewa (hx : p.tables.exec = Jvm.exec) (hb : c.code = cc) {k : Nat} (hk : k < 4) {atype : ArrayType} (hty : newarray.typeOf atype = q_akt k) (hts : ∀ w ∈ q_WS, w.before args s = true) (harr : Cond.arrayClass (newarray.typeOf atype) ∈ q_WS) (hK : va_K D vwCl (q_tys cy) s) (hS : va_S A H0 H locs)
    {n : Int32} (hn : ¬ n < 0) (hbig : ¬ 60000 < n.toNatClampNeg) (hcells : cells + 1 ≤ R.cells) (hslots : slots + n.toNatClampNeg ≤ R.slots) (hdg : decode cc pc = .ok (.newarray atype, 2))
    (kk : ∀ H1 : Heap, va_at D vwCl (H.size, .inl (cy k, q_zero k n.toNatClampNeg)) H1 → H1.size = H.size + 1 → (∀ q : Nat, q < H.size → H1[q]? = H[q]?) → va_S A H0 H1 locs → W p l e R s m args below meth c H1 locs (cells + 1) (slots + n.toNatClampNeg) Q (F0 m (pc + 2) ls (.ref H.size :: rest))) : W p l e R s m args below meth c H locs cells slots Q (F0 m pc ls (.int n :: rest)) := by
  refine va_newaK hx hb (hts _ harr) rfl hdg rfl hn rfl ?_ hcells hslots rfl fun H1 cA e1 z1 o1 hAr hNm => ?_
  · rw [hty]
    have h8 : componentBytes (q_akt k) ≤ 8 := by
      match k, hk with
      | 0, _ => decide
      | 1, _ => decide
      | 2, _ => decide
      | 3, _ => decide
    exact Nat.le_trans (Nat.mul_le_mul (Nat.not_lt.mp hbig) h8) (by decide)
  · rw [hty] at e1 hAr hNm
    have hcy : cA = cy k ∧ vp_cell (cy k) (q_zero k n.toNatClampNeg) = arrV (cy k) n.toNatClampNeg (fun _ => defaultValue (q_akt k)) := by
      match k, hk with
      | 0, _ => exact ⟨Option.some.inj (hNm.symm.trans (hK.2 0 _ rfl).2), rfl⟩
      | 1, _ => exact ⟨Option.some.inj (hNm.symm.trans (hK.2 1 _ rfl).2), rfl⟩
      | 2, _ => exact ⟨Option.some.inj (hNm.symm.trans (hK.2 2 _ rfl).2), rfl⟩
      | 3, _ => exact ⟨Option.some.inj (hNm.symm.trans (hK.2 3 _ rfl).2), rfl⟩
    obtain ⟨rfl, hv⟩ := hcy
    exact kk H1 (by show H1[H.size]? = some (vp_cell _ _); rw [hv]; exact e1) z1 o1 ⟨Nat.le_trans hS.1 (by omega), fun x h1 h2 => (o1 x (Nat.lt_of_lt_of_le h1 hS.1)).trans (hS.2.1 x h1 h2), hS.2.2⟩
theorem q_rnewq (hx : p.tables.exec = Jvm.exec) (hb : c.code = cc) {own : String} {index : Nat} (hts : ∀ w ∈ q_WS, w.before args s = true) (hown : s.vm.findClass own = some m.cls) (hcl : Cond.classLink own index RX0 ∈ q_WS) (hover : va_AO RX0 s) (hK : va_K D vwCl (q_tys cy) s) (hS : va_S A H0 H locs)
    {n : Int32} (hn : ¬ n < 0) (hbig : ¬ 60000 < n.toNatClampNeg) (hcells : cells + 1 ≤ R.cells) (hslots : slots + n.toNatClampNeg ≤ R.slots) (hdg : decode cc pc = .ok (.anewarray index, 3))
    (kk : ∀ H1 : Heap, va_at D vwCl (H.size, .inl (cy 4, q_zero 4 n.toNatClampNeg)) H1 → H1.size = H.size + 1 → (∀ q : Nat, q < H.size → H1[q]? = H[q]?) → va_S A H0 H1 locs → W p l e R s m args below meth c H1 locs (cells + 1) (slots + n.toNatClampNeg) Q (F0 m (pc + 3) ls (.ref H.size :: rest))) : W p l e R s m args below meth c H locs cells slots Q (F0 m pc ls (.int n :: rest)) := by
  refine W.anew hx hb hown (hts _ hcl) (va_AO.use hover) rfl hdg rfl hn (by omega) hcells hslots fun cA kA comp f1 f2 f3 f4 => ?_
  generalize hH1 : H.push ({ cls := cA, slots := Array.replicate n.toNatClampNeg .null, vm := .none } : Cell) = H1
  have z1 : H1.size = H.size + 1 := by rw [← hH1, Array.size_push]
  have e1 : H1[H.size]? = some (arrV cA n.toNatClampNeg (fun _ => .null)) := by rw [← hH1, Array.getElem?_push_size, ← arrV_new]
  have o1 : ∀ q : Nat, q < H.size → H1[q]? = H[q]? := fun q hq => by rw [← hH1, Array.getElem?_push, if_neg (Nat.ne_of_lt hq)]
  obtain ⟨_, _, _, _, _, g4⟩ := (hK.2 4 _ rfl).2
  have hcy : cA = cy 4 := Option.some.inj (f1.symm.trans g4)
  subst hcy
  exact kk H1 e1 z1 o1 ⟨Nat.le_trans hS.1 (by omega), fun x h1 h2 => (o1 x (Nat.lt_of_lt_of_le h1 hS.1)).trans (hS.2.1 x h1 h2), hS.2.2⟩
theorem q_riast (hx : p.tables.exec = Jvm.exec) (hb : c.code = cc) (hK : va_K D vwCl (q_tys cy) s) {n : Nat} {f : Nat → Int32} (hat : va_at D vwCl (a, .inl (cy 1, (n, .inl f))) H) (hS : va_S A H0 H locs) (ha : A a) {i : Int32} {x : Int32} (hin : ¬ (i < 0 ∨ n ≤ i.toNatClampNeg)) (hdg : decode cc pc = .ok (.iastore, 1))
    (kk : ∀ (H1 : Heap) (locs1 : List Loc), va_at D vwCl (a, .inl (cy 1, (n, .inl (upd f i.toNatClampNeg x)))) H1 → H1.size = H.size → (∀ q : Nat, q ≠ a → H1[q]? = H[q]?) → va_S A H0 H1 locs1 → W p l e R s m args below meth c H1 locs1 cells slots Q (F0 m (pc + 1) ls rest)) : W p l e R s m args below meth c H locs cells slots Q (F0 m pc ls (.int x :: .int i :: .ref a :: rest)) := by
  refine W.iast hx hb hat ((hK.2 1 _ rfl).1 n (fun j => .int (f j))) (fun q => by cases q) (by show ¬ (i < 0 ∨ (arrV _ _ _).slots.size ≤ _); rw [arrV_size]; exact hin) rfl rfl hdg fun H1 e z oq => ?_
  refine kk H1 _ ?_ z oq (hS.put z oq ha)
  show H1[a]? = some (vp_cell _ _)
  rw [e]
  rw [vp_cell_i, vp_cell_i, arrV_store]
  congr 2
  funext q
  by_cases hq : q = i.toNatClampNeg
  · subst hq
    simp [updV, upd]
    try rfl
  · simp [updV, upd, hq]
theorem q_rcast (hx : p.tables.exec = Jvm.exec) (hb : c.code = cc) (hK : va_K D vwCl (q_tys cy) s) {n : Nat} {f : Nat → Int32} (hat : va_at D vwCl (a, .inl (cy 0, (n, .inl f))) H) (hS : va_S A H0 H locs) (ha : A a) {i : Int32} {x : Int32} (hin : ¬ (i < 0 ∨ n ≤ i.toNatClampNeg)) (hdg : decode cc pc = .ok (.castore, 1))
    (kk : ∀ (H1 : Heap) (locs1 : List Loc), va_at D vwCl (a, .inl (cy 0, (n, .inl (upd f i.toNatClampNeg (vp_nar .char x))))) H1 → H1.size = H.size → (∀ q : Nat, q ≠ a → H1[q]? = H[q]?) → va_S A H0 H1 locs1 → W p l e R s m args below meth c H1 locs1 cells slots Q (F0 m (pc + 1) ls rest)) : W p l e R s m args below meth c H locs cells slots Q (F0 m pc ls (.int x :: .int i :: .ref a :: rest)) := by
  refine W.cast hx hb hat ((hK.2 0 _ rfl).1 n (fun j => .int (f j))) (fun q => by cases q) (by show ¬ (i < 0 ∨ (arrV _ _ _).slots.size ≤ _); rw [arrV_size]; exact hin) rfl rfl hdg fun H1 e z oq => ?_
  refine kk H1 _ ?_ z oq (hS.put z oq ha)
  show H1[a]? = some (vp_cell _ _)
  rw [e]
  rw [vp_cell_i, vp_cell_i, arrV_store]
  congr 2
  funext q
  by_cases hq : q = i.toNatClampNeg
  · subst hq
    simp [updV, upd, vp_nar]
    try rfl
  · simp [updV, upd, vp_nar, hq]
theorem q_rzast (hx : p.tables.exec = Jvm.exec) (hb : c.code = cc) (hK : va_K D vwCl (q_tys cy) s) {n : Nat} {f : Nat → Int32} (hat : va_at D vwCl (a, .inl (cy 3, (n, .inl f))) H) (hS : va_S A H0 H locs) (ha : A a) {i : Int32} {x : Int32} (hin : ¬ (i < 0 ∨ n ≤ i.toNatClampNeg)) (hdg : decode cc pc = .ok (.bastore, 1))
    (kk : ∀ (H1 : Heap) (locs1 : List Loc), va_at D vwCl (a, .inl (cy 3, (n, .inl (upd f i.toNatClampNeg (vp_nar .boolean x))))) H1 → H1.size = H.size → (∀ q : Nat, q ≠ a → H1[q]? = H[q]?) → va_S A H0 H1 locs1 → W p l e R s m args below meth c H1 locs1 cells slots Q (F0 m (pc + 1) ls rest)) : W p l e R s m args below meth c H locs cells slots Q (F0 m pc ls (.int x :: .int i :: .ref a :: rest)) := by
  refine W.zast hx hb hat ((hK.2 3 _ rfl).1 n (fun j => .int (f j))) (fun q => by cases q) (by show ¬ (i < 0 ∨ (arrV _ _ _).slots.size ≤ _); rw [arrV_size]; exact hin) rfl rfl hdg fun H1 e z oq => ?_
  refine kk H1 _ ?_ z oq (hS.put z oq ha)
  show H1[a]? = some (vp_cell _ _)
  rw [e]
  rw [vp_cell_i, vp_cell_i, arrV_store]
  congr 2
  funext q
  by_cases hq : q = i.toNatClampNeg
  · subst hq
    simp [updV, upd, vp_nar]
    try rfl
  · simp [updV, upd, vp_nar, hq]
theorem q_rlast (hx : p.tables.exec = Jvm.exec) (hb : c.code = cc) (hK : va_K D vwCl (q_tys cy) s) {n : Nat} {f : Nat → Int64} (hat : va_at D vwCl (a, .inl (cy 2, (n, .inr (.inl f)))) H) (hS : va_S A H0 H locs) (ha : A a) {i : Int32} {x : Int64} (hin : ¬ (i < 0 ∨ n ≤ i.toNatClampNeg)) (hdg : decode cc pc = .ok (.lastore, 1))
    (kk : ∀ (H1 : Heap) (locs1 : List Loc), va_at D vwCl (a, .inl (cy 2, (n, .inr (.inl (vp_updL f i.toNatClampNeg x))))) H1 → H1.size = H.size → (∀ q : Nat, q ≠ a → H1[q]? = H[q]?) → va_S A H0 H1 locs1 → W p l e R s m args below meth c H1 locs1 cells slots Q (F0 m (pc + 1) ls rest)) : W p l e R s m args below meth c H locs cells slots Q (F0 m pc ls (.long x :: .int i :: .ref a :: rest)) := by
  refine W.last hx hb hat ((hK.2 2 _ rfl).1 n (fun j => .long (f j))) (fun q => by cases q) (by show ¬ (i < 0 ∨ (arrV _ _ _).slots.size ≤ _); rw [arrV_size]; exact hin) rfl rfl hdg fun H1 e z oq => ?_
  refine kk H1 _ ?_ z oq (hS.put z oq ha)
  show H1[a]? = some (vp_cell _ _)
  rw [e]
  rw [vp_cell_l, vp_cell_l, arrV_store]
  congr 2
  funext q
  by_cases hq : q = i.toNatClampNeg
  · subst hq
    simp [updV, vp_updL]
    try rfl
  · simp [updV, vp_updL, hq]
theorem q_raast (hx : p.tables.exec = Jvm.exec) (hb : c.code = cc) (hK : va_K D vwCl (q_tys cy) s) {n v : Nat} {f : Nat → Option Nat} {vs : List Value} (hat : va_at D vwCl (a, .inl (cy 4, (n, .inr (.inr (.inr (.inr f)))))) H) (hS : va_S A H0 H locs) (ha : A a) (hv : va_at D vwCl (v, .inr (0, vs)) H) {i : Int32} (hin : ¬ (i < 0 ∨ n ≤ i.toNatClampNeg)) (hdg : decode cc pc = .ok (.aastore, 1))
    (kk : ∀ (H1 : Heap) (locs1 : List Loc), va_at D vwCl (a, .inl (cy 4, (n, .inr (.inr (.inr (.inr (va_up f i.toNatClampNeg (some v)))))))) H1 → H1.size = H.size → (∀ q : Nat, q ≠ a → H1[q]? = H[q]?) → va_S A H0 H1 locs1 → W p l e R s m args below meth c H1 locs1 cells slots Q (F0 m (pc + 1) ls rest)) : W p l e R s m args below meth c H locs cells slots Q (F0 m pc ls (.ref v :: .int i :: .ref a :: rest)) := by
  have hlt : i.toNatClampNeg < n := Nat.not_le.mp fun q => hin (Or.inr q)
  have h0 : ¬ i < 0 := fun q => hin (Or.inl q)
  obtain ⟨r', hr', cellV, g1, g2, g3, -⟩ := hv
  have hcls := (hK.1 0 _ (q_cls_at 0 (by decide))).2
  obtain ⟨kA, comp, k1, k2, k3, -⟩ := (hK.2 4 _ rfl).2
  have hcomp : comp = D.1 0 := Option.some.inj (k3.symm.trans hcls.1)
  subst hcomp
  obtain ⟨kC, hkC, -⟩ := hcls.2
  refine W.aast hx hb hat (fun q h => by cases h) (fun h => by cases h) k1 k2 rfl hkC ⟨h0, by show _ < (arrV _ _ _).slots.size; rw [arrV_size]; exact hlt⟩ g1 (fun q h => by rw [g3] at h; cases h) (by rw [g2]; exact hkC) (by rw [g2]; exact va_assign hcls) rfl rfl hdg fun H1 e z oq => ?_
  refine kk H1 _ ?_ z oq (hS.put z oq ha)
  show H1[a]? = some (vp_cell _ _)
  rw [e]
  rw [vp_cell_q, vp_cell_q, arrV_store]
  congr 2
  funext q
  by_cases hq : q = i.toNatClampNeg
  · subst hq
    simp [updV, va_up, va_rf]
  · simp [updV, va_up, hq]
end QR
end
section
/-! ===== what the pure machine does, the machine does ===== -/
theorem q_and {a b : Bool} (h : (a && b) = true) : a = true ∧ b = true := (Bool.and_eq_true _ _).mp h
theorem q_dec {b : ByteArray} {pc nx n : Nat} {ins : Instr} (h : decode b pc = .ok (ins, nx - pc)) (hn : Nat.beq nx (pc + n) = true) : decode b pc = .ok (ins, n) ∧ nx = pc + n := by
  have e := Nat.eq_of_beq_eq_true hn
  subst e
  rw [Nat.add_sub_cancel_left] at h
  exact ⟨h, rfl⟩
theorem q_lookup_mem {β : Type} : ∀ {l : List (Nat × β)} {i : Nat} {v : β}, l.lookup i = some v → (i, v) ∈ l := by
  intro l
  induction l with
  | nil => intro i v h; cases h
  | cons q r ih =>
    intro i v h
    obtain ⟨j, w⟩ := q
    rw [List.lookup_cons] at h
    split at h
    · next e =>
      have e := eq_of_beq e
      cases h
      subst e
      exact List.mem_cons_self
    · exact List.mem_cons_of_mem _ (ih h)
theorem q_ob_some {β α : Type} {o : Option β} {f : β → Option α} {r : α} (h : q_ob o none f = some r) : ∃ x, o = some x ∧ f x = some r := by
  cases o with
  | none => cases h
  | some x => exact ⟨x, rfl, h⟩
theorem q_bt_some {α : Type} {b : Bool} {x : Option α} {r : α} (h : q_bt b x none = some r) : b = true ∧ x = some r := by
  cases b with
  | false => cases h
  | true => exact ⟨rfl, h⟩
theorem q_rd_has {ls : Array Slot} {n : Nat} {L : qL} {i : Nat} {v : Value} (hl : lv_has ls n L) (h : L.lookup i = some v) : ls[i]? = some (.val v) := hl.2.2 (i, v) (q_lookup_mem h)
theorem q_int_some {v : Value} {x : Int32} (h : q_int v = some x) : v = .int x := by
  cases v <;> cases h
  rfl
theorem q_long_some {v : Value} {x : Int64} (h : q_long v = some x) : v = .long x := by
  cases v <;> cases h
  rfl
theorem q_ref_some {v : Value} {x : Nat} (h : q_ref v = some x) : v = .ref x := by
  cases v <;> cases h
  rfl
theorem q_rdI_has {ls : Array Slot} {n : Nat} {L : qL} {i : Nat} {x : Int32} (hl : lv_has ls n L) (h : q_rdI L i = some x) : ∃ k : Nat, L[k]? = some (i, Value.int x) ∧ ls[i]? = some (.val (.int x)) := by
  unfold q_rdI at h
  split at h
  · next v hv =>
    have e := q_int_some h
    subst e
    obtain ⟨k, hk⟩ := List.getElem?_of_mem (q_lookup_mem hv)
    exact ⟨k, hk, q_rd_has hl hv⟩
  · cases h
theorem q_rdL_has {ls : Array Slot} {n : Nat} {L : qL} {i : Nat} {x : Int64} (hl : lv_has ls n L) (h : q_rdL L i = some x) : ls[i]? = some (.val (.long x)) := by
  unfold q_rdL at h
  split at h
  · next v hv =>
    have e := q_long_some h
    subst e
    exact q_rd_has hl hv
  · cases h
theorem q_rdA_has {ls : Array Slot} {n : Nat} {L : qL} {i : Nat} {v : Value} (hl : lv_has ls n L) (h : q_rdA L i = some v) : ((∃ x, v = .ref x) ∨ v = .null) ∧ ls[i]? = some (.val v) := by
  unfold q_rdA at h
  split at h
  · next w hw =>
    cases w <;> cases h
    · exact ⟨Or.inr rfl, q_rd_has hl hw⟩
    · exact ⟨Or.inl ⟨_, rfl⟩, q_rd_has hl hw⟩
  · cases h
theorem q_pick_has {ls : Array Slot} {n : Nat} {L : qL} (hl : lv_has ls n L) : ∀ ks, lv_has ls n (q_pick L ks) := by
  intro ks
  refine ⟨hl.1, hl.2.1, ?_⟩
  induction ks with
  | nil => intro q h; cases h
  | cons i r ih =>
    unfold q_pick
    split
    · next v hv =>
      intro q h
      rcases List.mem_cons.mp h with h | h
      · rw [h]; exact q_rd_has hl hv
      · exact ih q h
    · exact ih
theorem q_keep_has {ls : Array Slot} {n : Nat} {L : qL} (hl : lv_has ls n L) (o : Option (List Nat)) : lv_has ls n (q_keep o L) := by
  cases o with
  | none => exact hl
  | some ks => exact q_pick_has hl ks
theorem q_obj_some {σ : qH} {v : Value} {ci : Nat} {fs : List Value} (h : q_obj σ v ci = some fs) : ∃ a, v = .ref a ∧ σ.1 a = some (.inl (ci, fs)) := by
  unfold q_obj at h
  split at h
  · next a =>
    split at h
    · next c fs' he =>
      split at h
      · next hc => cases h; subst hc; exact ⟨a, rfl, he⟩
      · cases h
    · cases h
  · cases h
theorem q_fld_some {σ : qH} {v w : Value} {ci j : Nat} (h : q_fld σ v ci j = some w) : ∃ a fs, v = .ref a ∧ σ.1 a = some (.inl (ci, fs)) ∧ fs[j]? = some w := by
  unfold q_fld at h
  split at h
  · next fs hf =>
    obtain ⟨a, h1, h2⟩ := q_obj_some hf
    exact ⟨a, fs, h1, h2, h⟩
  · cases h
theorem q_getI_some {σ : qH} {v : Value} {ci j : Nat} {x : Int32} (h : q_getI σ v ci j = some x) : ∃ a fs, v = .ref a ∧ σ.1 a = some (.inl (ci, fs)) ∧ fs[j]? = some (.int x) := by
  unfold q_getI at h
  split at h
  · next w hw => rw [q_int_some h] at hw; exact q_fld_some hw
  · cases h
theorem q_getL_some {σ : qH} {v : Value} {ci j : Nat} {x : Int64} (h : q_getL σ v ci j = some x) : ∃ a fs, v = .ref a ∧ σ.1 a = some (.inl (ci, fs)) ∧ fs[j]? = some (.long x) := by
  unfold q_getL at h
  split at h
  · next w hw => rw [q_long_some h] at hw; exact q_fld_some hw
  · cases h
theorem q_getR_some {σ : qH} {v : Value} {ci j : Nat} {x : Nat} (h : q_getR σ v ci j = some x) : ∃ a fs, v = .ref a ∧ σ.1 a = some (.inl (ci, fs)) ∧ fs[j]? = some (.ref x) := by
  unfold q_getR at h
  split at h
  · next w hw => rw [q_ref_some h] at hw; exact q_fld_some hw
  · cases h
theorem q_put_some {σ σ' : qH} {v x : Value} {ci j t : Nat} (h : q_put σ v ci j t x = some σ') : ∃ a fs, v = .ref a ∧ σ.1 a = some (.inl (ci, fs)) ∧ j < fs.length ∧ q_okv t x = true ∧ σ' = q_upd σ a (.inl (ci, fs.set j x)) := by
  unfold q_put at h
  split at h
  · next a =>
    split at h
    · next c fs he =>
      split at h
      · next hc => obtain ⟨h1, h2, h3⟩ := hc; subst h1; cases h; exact ⟨a, fs, rfl, he, h2, h3, rfl⟩
      · cases h
    · cases h
  · cases h
theorem q_arr_some {σ : qH} {v : Value} {k : Nat} {x : vp_A} (h : q_arr σ v k = some x) : ∃ a, v = .ref a ∧ σ.1 a = some (.inr (k, x)) := by
  unfold q_arr at h
  split at h
  · next a =>
    split at h
    · next c x' he =>
      split at h
      · next hc => subst hc; cases h; exact ⟨a, rfl, he⟩
      · cases h
    · cases h
  · cases h
theorem q_aldI_some {σ : qH} {v : Value} {k : Nat} {i x : Int32} (h : q_aldI σ v k i = some x) : ∃ a n f, v = .ref a ∧ σ.1 a = some (.inr (k, (n, .inl f))) ∧ ¬ (i < 0 ∨ n ≤ i.toNatClampNeg) ∧ x = f i.toNatClampNeg := by
  unfold q_aldI at h
  split at h
  · next n f hf =>
    obtain ⟨a, h1, h2⟩ := q_arr_some hf
    split at h
    · cases h
    · next hi => cases h; exact ⟨a, n, f, h1, h2, hi, rfl⟩
  · cases h
theorem q_aldL_some {σ : qH} {v : Value} {i : Int32} {x : Int64} (h : q_aldL σ v i = some x) : ∃ a n f, v = .ref a ∧ σ.1 a = some (.inr (2, (n, .inr (.inl f)))) ∧ ¬ (i < 0 ∨ n ≤ i.toNatClampNeg) ∧ x = f i.toNatClampNeg := by
  unfold q_aldL at h
  split at h
  · next n f hf =>
    obtain ⟨a, h1, h2⟩ := q_arr_some hf
    split at h
    · cases h
    · next hi => cases h; exact ⟨a, n, f, h1, h2, hi, rfl⟩
  · cases h
theorem q_aldR_some {σ : qH} {v : Value} {i : Int32} {x : Nat} (h : q_aldR σ v i = some x) : ∃ a n f, v = .ref a ∧ σ.1 a = some (.inr (4, (n, .inr (.inr (.inr (.inr f)))))) ∧ ¬ (i < 0 ∨ n ≤ i.toNatClampNeg) ∧ f i.toNatClampNeg = some x := by
  unfold q_aldR at h
  split at h
  · next n f hf =>
    obtain ⟨a, h1, h2⟩ := q_arr_some hf
    split at h
    · cases h
    · next hi => exact ⟨a, n, f, h1, h2, hi, h⟩
  · cases h
theorem q_astI_some {σ σ' : qH} {v : Value} {k : Nat} {i x : Int32} (h : q_astI σ v k i x = some σ') : ∃ a n f, v = .ref a ∧ σ.1 a = some (.inr (k, (n, .inl f))) ∧ ¬ (i < 0 ∨ n ≤ i.toNatClampNeg) ∧ σ' = q_upd σ a (.inr (k, (n, .inl (upd f i.toNatClampNeg x)))) := by
  unfold q_astI at h
  split at h
  · next a0 =>
    split at h
    · next n f hf =>
      obtain ⟨a, h1, h2⟩ := q_arr_some hf
      cases h1
      split at h
      · cases h
      · next hi => cases h; exact ⟨a0, n, f, rfl, h2, hi, rfl⟩
    · cases h
  · cases h
theorem q_astL_some {σ σ' : qH} {v : Value} {i : Int32} {x : Int64} (h : q_astL σ v i x = some σ') : ∃ a n f, v = .ref a ∧ σ.1 a = some (.inr (2, (n, .inr (.inl f)))) ∧ ¬ (i < 0 ∨ n ≤ i.toNatClampNeg) ∧ σ' = q_upd σ a (.inr (2, (n, .inr (.inl (vp_updL f i.toNatClampNeg x))))) := by
  unfold q_astL at h
  split at h
  · next a0 =>
    split at h
    · next n f hf =>
      obtain ⟨a, h1, h2⟩ := q_arr_some hf
      cases h1
      split at h
      · cases h
      · next hi => cases h; exact ⟨a0, n, f, rfl, h2, hi, rfl⟩
    · cases h
  · cases h
theorem q_astR_some {σ σ' : qH} {v : Value} {i : Int32} {x : Nat} (h : q_astR σ v i x = some σ') : ∃ a n f vs, v = .ref a ∧ σ.1 a = some (.inr (4, (n, .inr (.inr (.inr (.inr f)))))) ∧ ¬ (i < 0 ∨ n ≤ i.toNatClampNeg) ∧ σ.1 x = some (.inl (0, vs)) ∧ σ' = q_upd σ a (.inr (4, (n, .inr (.inr (.inr (.inr (va_up f i.toNatClampNeg (some x)))))))) := by
  unfold q_astR at h
  split at h
  · next a0 =>
    split at h
    · next n f hf =>
      obtain ⟨a, h1, h2⟩ := q_arr_some hf
      cases h1
      split at h
      · cases h
      · next hi =>
        cases h
        obtain ⟨hi1, hi2⟩ := not_or.mp hi
        cases ho : q_obj σ (.ref x) 0 with
        | none => exact absurd ho hi2
        | some vs =>
          obtain ⟨b, hb1, hb2⟩ := q_obj_some ho
          cases hb1
          exact ⟨a0, n, f, vs, rfl, h2, hi1, hb2, rfl⟩
    · cases h
  · cases h
theorem q_alen_some {σ : qH} {v : Value} {k : Nat} {x : Int32} (h : q_alen σ v k = some x) : ∃ a y, v = .ref a ∧ σ.1 a = some (.inr (k, y)) ∧ x = Int32.ofNat y.1 := by
  unfold q_alen at h
  split at h
  · next y hy =>
    obtain ⟨a, h1, h2⟩ := q_arr_some hy
    cases h
    exact ⟨a, y, h1, h2, rfl⟩
  · cases h
theorem q_newa_some {σ σ' : qH} {k : Nat} {n : Int32} (h : q_newa σ k n = some σ') : ¬ n < 0 ∧ ¬ 60000 < n.toNatClampNeg ∧ σ' = q_new σ (.inr (k, q_zero k n.toNatClampNeg)) n.toNatClampNeg := by
  unfold q_newa at h
  split at h
  · cases h
  · next hi => cases h; exact ⟨(not_or.mp hi).1, (not_or.mp hi).2, rfl⟩
theorem q_ft_in : (List.range 8).all (fun ci => (List.range (q_cls ci).2.2).all fun j => Nat.blt (q_tc (q_fty ci j)) 5) = true := by decide +kernel
theorem q_okv_fit {t : FieldType} {v : Value} (ht : q_tc t < 5) (h : q_okv (q_tc t) v = true) : narrow t v = v ∧ fits t v = true := by
  cases t with
  | int => cases v <;> first | (cases h; done) | exact ⟨rfl, rfl⟩
  | long => cases v <;> first | (cases h; done) | exact ⟨rfl, rfl⟩
  | object n => cases v <;> first | (cases h; done) | exact ⟨rfl, rfl⟩
  | array n => cases v <;> first | (cases h; done) | exact ⟨rfl, rfl⟩
  | char => exact ⟨of_decide_eq_true (q_and h).1, (q_and h).2⟩
  | boolean => exact ⟨of_decide_eq_true (q_and h).1, (q_and h).2⟩
  | byte => exact absurd ht (by decide)
  | short => exact absurd ht (by decide)
  | float => exact absurd ht (by decide)
  | double => exact absurd ht (by decide)
def q_swt (x : Int32) (d : Nat) : List (Int32 × Nat) → Nat
  | [] => d
  | p :: r => if x = p.1 then p.2 else q_swt x d r
theorem q_sw_eq {α : Type} (K : Nat → α) (x : Int32) (d : Nat) (sw : List (Int32 × Nat)) : q_sw K x d sw = K (q_swt x d sw) := by
  induction sw with
  | nil => rfl
  | cons p r ih =>
    unfold q_sw q_swt
    split
    · rfl
    · exact ih
theorem q_oksw_spec {pc d : Nat} {x : Int32} : ∀ (os : List Int) (sw : List (Int32 × Nat)) (lo : Int), q_oksw pc lo os sw = true →
    (∃ (i : Nat) (o : Int), os[i]? = some o ∧ x.toInt = lo + i ∧ (pc : Int) + o = (q_swt x d sw : Nat)) ∨ ((x.toInt < lo ∨ lo + (os.length : Int) ≤ x.toInt) ∧ q_swt x d sw = d) := by
  intro os
  induction os with
  | nil =>
    intro sw lo h
    cases sw with
    | nil => exact Or.inr ⟨by have : (([] : List Int).length : Int) = 0 := rfl; omega, rfl⟩
    | cons p r => cases h
  | cons o os ih =>
    intro sw lo h
    cases sw with
    | nil => cases h
    | cons p r =>
      obtain ⟨h1, h3⟩ := q_and h
      obtain ⟨h1, h2⟩ := q_and h1
      have h1 := of_decide_eq_true h1
      have h2 := of_decide_eq_true h2
      by_cases hx : x = p.1
      · refine Or.inl ⟨0, o, rfl, by rw [hx, h1]; simp, ?_⟩
        unfold q_swt
        rw [if_pos hx]
        exact h2
      · have hs : q_swt x d (p :: r) = q_swt x d r := by
          show (if x = p.1 then p.2 else q_swt x d r) = _
          rw [if_neg hx]
        rw [hs]
        have hne : x.toInt ≠ lo := fun e => hx (Int32.toInt_inj.mp (e.trans h1.symm))
        have hlen : ((o :: os).length : Int) = (os.length : Int) + 1 := by simp
        rcases ih r (lo + 1) h3 with ⟨i, o', g1, g2, g3⟩ | ⟨g1, g2⟩
        · exact Or.inl ⟨i + 1, o', by simpa using g1, by rw [g2]; push_cast; omega, g3⟩
        · exact Or.inr ⟨by omega, g2⟩
theorem q_okls_spec {pc d : Nat} {x : Int32} {dd : Int} (hd : (pc : Int) + dd = (d : Nat)) : ∀ (os : List (Int × Int)) (sw : List (Int32 × Nat)), q_okls pc os sw = true →
    (pc : Int) + Op.lookupswitch.offset os dd x.toInt = (q_swt x d sw : Nat) := by
  intro os
  induction os with
  | nil =>
    intro sw h
    cases sw with
    | nil => rw [Op.lookupswitch.offset_nil]; exact hd
    | cons p r => cases h
  | cons o os ih =>
    intro sw h
    cases sw with
    | nil => cases h
    | cons p r =>
      obtain ⟨h1, h3⟩ := q_and h
      obtain ⟨h1, h2⟩ := q_and h1
      have h1 := of_decide_eq_true h1
      have h2 := of_decide_eq_true h2
      obtain ⟨a, b⟩ := o
      by_cases hx : x = p.1
      · show (pc : Int) + Op.lookupswitch.offset ((a, b) :: os) dd x.toInt = ((if x = p.1 then p.2 else q_swt x d r : Nat) : Int)
        rw [if_pos hx, Op.lookupswitch.offset_cons, if_pos (by rw [hx, h1])]
        exact h2
      · show (pc : Int) + Op.lookupswitch.offset ((a, b) :: os) dd x.toInt = ((if x = p.1 then p.2 else q_swt x d r : Nat) : Int)
        rw [if_neg hx, lv_osw hx h1]
        exact ih r h3
def q_rm (k mc ms : Nat) : Room := { frames := k + 1, cells := mc, slots := ms, locals := 40 * (k + 1) }
def q_Cx (p : Program) (R : Room) (s : State) (m : MethodId) (args : Array Value) (meth : Method) (c : Code) (k : Nat) (M : qM) (D : va_G) (cy : Nat → ClassId) (lo : Nat) : Prop :=
  p.tables.exec = Jvm.exec ∧ c.code = M.1.2.1 ∧ c.maxLocals = M.1.2.2.1 ∧ s.vm.findClass M.2.1.1 = some m.cls ∧ (∀ w ∈ q_WS, w.before args s = true) ∧ q_KK D cy s ∧ lo ≤ s.heap.size ∧ (M.1.1.name = "<init>" → meth.name = "<init>") ∧ k + 1 ≤ R.frames ∧ 40 * (k + 1) ≤ R.locals
def q_Mt (l : Launch) (D : va_G) (cy : Nat → ClassId) (lo j : Nat) (As : List Value) (σ : qH) (v : Option Value) (σ1 : qH) : Prop :=
  Met l (q_ms j).1.1 (Cond.code (q_ms j).1.1 (q_ms j).1.2.1 (q_ms j).1.2.2.1 (q_ms j).1.2.2.2 :: q_WS) (q_rm j (σ1.2.1 - σ.2.1) (σ1.2.2 - σ.2.2)) (va_Pc As (fun U => q_W D cy lo σ U U.heap ∧ q_KK D cy U)) (fun _ st oc t => oc = .returned v ∧ q_W D cy lo σ1 t t.heap ∧ va_F (fun q => lo ≤ q) st t) (σ1.2.1 - σ.2.1) (σ1.2.2 - σ.2.2) (fun q => lo ≤ q)
def q_le (σ σ' : qH) : Prop := σ.2.1 ≤ σ'.2.1 ∧ σ.2.2 ≤ σ'.2.2
theorem q_le_rfl {σ : qH} : q_le σ σ := ⟨Nat.le_refl _, Nat.le_refl _⟩
theorem q_le.trans {a b c : qH} (h1 : q_le a b) (h2 : q_le b c) : q_le a c := ⟨Nat.le_trans h1.1 h2.1, Nat.le_trans h1.2 h2.2⟩
theorem q_cV_some {o : Option qR} {σ : qH} (h : q_cV o = some σ) : o = some (none, σ) := by
  unfold q_cV at h
  split at h
  · cases h; rfl
  · cases h
theorem q_cI_some {o : Option qR} {p : Int32 × qH} (h : q_cI o = some p) : o = some (some (.int p.1), p.2) := by
  unfold q_cI at h
  split at h
  · cases h; rfl
  · cases h
theorem q_cL_some {o : Option qR} {p : Int64 × qH} (h : q_cL o = some p) : o = some (some (.long p.1), p.2) := by
  unfold q_cL at h
  split at h
  · cases h; rfl
  · cases h
theorem q_cR_some {o : Option qR} {p : Option Nat × qH} (h : q_cR o = some p) : o = some (some (va_rf p.1), p.2) := by
  unfold q_cR at h
  split at h
  · cases h; rfl
  · cases h; rfl
  · cases h
theorem q_inv_some {k : Nat} {call : qC} {nx : Nat} {ax : List Nat} {L : qL} {st : List Value} {σ : qH} {t : qR ⊕ (Nat × qL × List Value × qH)} (h : q_inv k call none q_K nx ax L st σ = some t) :
    ax.getD 0 0 < k ∧ ax.getD 1 0 ≤ st.length ∧ (st.drop (ax.getD 1 0)).length ≤ 4 ∧ ∃ (v : Option Value) (σ1 : qH), call (ax.getD 0 0) (st.take (ax.getD 1 0)).reverse σ = some (v, σ1) ∧ t = .inr (nx, L, v.toList ++ st.drop (ax.getD 1 0), σ1) := by
  unfold q_inv at h
  obtain ⟨hg, h⟩ := q_bt_some h
  obtain ⟨hg, h3⟩ := q_and hg
  obtain ⟨h1, h2⟩ := q_and hg
  refine ⟨Nat.blt_eq.mp h1, Nat.le_of_ble_eq_true h2, Nat.le_of_ble_eq_true h3, ?_⟩
  split at h
  · obtain ⟨y, hy, h⟩ := q_ob_some h
    have hc := q_cV_some hy
    cases h
    exact ⟨_, _, hc, rfl⟩
  · obtain ⟨y, hy, h⟩ := q_ob_some h
    have hc := q_cI_some hy
    cases h
    exact ⟨_, _, hc, rfl⟩
  · obtain ⟨y, hy, h⟩ := q_ob_some h
    have hc := q_cL_some hy
    cases h
    exact ⟨_, _, hc, rfl⟩
  · obtain ⟨y, hy, h⟩ := q_ob_some h
    have hc := q_cR_some hy
    obtain ⟨y1, y2⟩ := y
    cases y1 with
    | none => cases h; exact ⟨_, _, hc, rfl⟩
    | some a => cases h; exact ⟨_, _, hc, rfl⟩
theorem q_cats {st : List Value} (h : st.length ≤ 4) : (st.map fun v => v.category).sum ≤ 8 := by
  have key : ∀ l : List Value, (l.map fun v => v.category).sum ≤ 2 * l.length := by
    intro l
    induction l with
    | nil => exact Nat.le_refl _
    | cons v r ih =>
      have : v.category ≤ 2 := by rcases lv_cat v with q | q <;> omega
      simp only [List.map_cons, List.sum_cons, List.length_cons]
      omega
  have := key st
  omega
theorem q_nest_kind {w : Cond} (h : w ∈ q_nest) : ∃ a i x b, w = .methodLinkNest a i x b := by
  unfold q_nest at h
  simp only [List.mem_cons, List.not_mem_nil, or_false] at h
  rcases h with h | h | h | h | h | h | h | h | h | h | h | h | h | h | h | h | h | h | h | h | h | h | h | h | h <;> exact ⟨_, _, _, _, h⟩
theorem q_KK.warm {D : va_G} {cy : Nat → ClassId} {s U : State} (hW : s.WarmedH U.vm) (h : q_KK D cy s) : q_KK D cy U := by
  refine ⟨va_K.moved hW.alike h.1, fun w hw => ?_, h.2.2.moved hW.alike⟩
  obtain ⟨a, i, x, b, rfl⟩ := q_nest_kind hw
  exact va_Nw.warmM hW (h.2.1 _ hw)
theorem q_KK.same {D : va_G} {cy : Nat → ClassId} {s U : State} (hv : s.vm = U.vm) (h : q_KK D cy s) : q_KK D cy U := by
  refine ⟨va_K.moved (hv ▸ Vm.Alike.refl _) h.1, fun w hw => ?_, h.2.2.moved (hv ▸ Vm.Alike.refl _)⟩
  obtain ⟨a, i, x, b, rfl⟩ := q_nest_kind hw
  exact va_Nw.same rfl hv (h.2.1 _ hw)
theorem q_blind {D : va_G} {cy : Nat → ClassId} {lo : Nat} {σ : qH} {As : List Value} : FrameBlind (va_Pc As (fun U => q_W D cy lo σ U U.heap ∧ q_KK D cy U)) := by
  rintro a U g mk ⟨q0, q1, q2⟩
  exact ⟨q0, q_W.moved (u := U) (U := U.calling g mk a) (Vm.Alike.refl U.vm) q1, q_KK.same (s := U) (U := U.calling g mk a) rfl q2⟩
theorem q_WSg {w : Cond} (h : w ∈ q_WS) : ∀ big, (∀ v ∈ q_WS, v ∈ big) → GoodIn big (w :: q_WS) := fun big hb => q_WS_good (fun v hv => by
  rcases List.mem_cons.mp hv with e | e
  · rw [e]; exact h
  · exact e) hb
section QS
variable {p : Program} {l : Launch} {e : Env} {R : Room} {s : State} {m : MethodId} {args : Array Value} {below : List Frame} {meth : Method} {c : Code} {H : Heap} {locs : List Loc} {cells slots : Nat} {Q : State → Prop}
variable {ls : Array Slot} {D : va_G} {cy : Nat → ClassId} {lo : Nat} {H0 : Heap}
theorem q_after {mc ms pc : Nat} {st0 rest : List Value} {Qa : State → Outcome → State → Prop} {free : Addr → Prop} {v : Option Value} {σ1 : qH} (hr : va_Run p l e R s m args below meth c H locs cells slots mc ms (F0 m pc ls st0) rest Qa free)
    (hQ : ∀ st oc t, Qa st oc t → oc = .returned v ∧ q_W D cy lo σ1 t t.heap ∧ va_F (fun q => lo ≤ q) st t) (hS : va_S (fun q => lo ≤ q) H0 H locs) (hf : ∀ q, free q → lo ≤ q)
    (kk : ∀ (H1 : Heap) (locs1 : List Loc), q_W D cy lo σ1 s H1 → va_S (fun q => lo ≤ q) H0 H1 locs1 → W p l e R s m args below meth c H1 locs1 (cells + mc) (slots + ms) Q (F0 m (pc + 3) ls (v.toList ++ rest))) : W p l e R s m args below meth c H locs cells slots Q (F0 m pc ls st0) := by
  intro T hT X
  obtain ⟨v', st₀, t, T', L, h0, X', hL, e1, e2, hq, st⟩ := hr T hT X
  obtain ⟨hv, hw, hz, hk⟩ := hQ _ _ _ hq
  cases hv
  rw [h0] at hz hk
  have hal : t.vm.Alike s.vm := by
    have := X'.warmed.alike
    rw [e2] at this
    exact this.symm
  obtain ⟨t2, a1, b1⟩ := kk T'.heap (locs ++ L) (by rw [e1]; exact hw.moved hal)
    ⟨Nat.le_trans hS.1 (by rw [e1]; exact hz), fun q h1 h2 => by rw [e1, hk q (Nat.lt_of_lt_of_le h1 hS.1) h2]; exact hS.2.1 q h1 h2, fun q hq => by
      rcases List.mem_append.mp hq with h | h
      · exact hS.2.2 q h
      · exact hf _ (hL q h)⟩ T' rfl X'
  exact ⟨t2, st t2 a1, b1⟩
def q_Wk (p : Program) (l : Launch) (e : Env) (R : Room) (s : State) (m : MethodId) (args : Array Value) (below : List Frame) (meth : Method) (c : Code) (Q : State → Prop) (nL : Nat) (D : va_G) (cy : Nat → ClassId) (lo z0 w0 : Nat) (pc : Nat) (L : qL) (st : List Value) (σ : qH) : Prop :=
  ∀ (H : Heap) (locs : List Loc) (ls : Array Slot) (cells slots : Nat), lv_has ls nL L → q_W D cy lo σ s H → va_S (fun q => lo ≤ q) s.heap H locs → cells + z0 = σ.2.1 → slots + w0 = σ.2.2 → W p l e R s m args below meth c H locs cells slots Q (F0 m pc ls st)
theorem q_recvc {k : Nat} {As : List Value} {σ : qH} {v : Option Value} {σ1 : qH} (h : q_call k As σ = some (v, σ1)) : ((q_ms k).2.1.2.2 ≠ 0 → ∃ fs, q_obj σ (As.headD .null) (q_ms k).2.1.2.1 = some fs) ∧ As.length = (q_ms k).2.2.1.getD 4 0 ∧ (lg_sl As).length ≤ (q_ms k).1.2.2.1 ∧ q_run k 0 (lv_args 0 As) [] σ = some (v, σ1) := by
  rw [q_call_eq] at h
  obtain ⟨hg, h⟩ := q_bt_some h
  obtain ⟨hg, h3⟩ := q_and hg
  obtain ⟨h1, h2⟩ := q_and hg
  refine ⟨fun e => ?_, Nat.eq_of_beq_eq_true h2, Nat.le_of_ble_eq_true h3, h⟩
  rcases Bool.or_eq_true _ _ ▸ h1 with h1 | h1
  · exact absurd (Nat.eq_of_beq_eq_true h1) e
  · exact Option.isSome_iff_exists.mp h1
/-- a call of method j, by its contract -/
theorem q_callW {k j pc idx kd : Nat} {M : qM} {σ σ1 : qH} {As rest : List Value} {v : Option Value} {z0 w0 : Nat} (C0 : q_Cx p R s m args meth c k M D cy lo) (hj : j < k) (hom : q_okm (q_ms j) = true) (hkd : (q_ms j).2.1.2.2 = kd)
    (hM : q_Mt l D cy lo j As σ v σ1) (hc : q_call j As σ = some (v, σ1)) (hle : q_le σ σ1)
    (hlk : Cond.methodLink M.2.1.1 idx (q_ms j).1.1 ∈ q_WS ∨ Cond.methodLinkNest M.2.1.1 idx (q_ms j).1.1 "PlushFlocks" ∈ q_nest)
    (hdg : decode M.1.2.1 pc = .ok (if kd = 0 then .invokestatic idx else if kd = 1 then .invokevirtual idx else .invokespecial idx, 3)) (hkd2 : kd = 0 ∨ kd = 1 ∨ kd = 2)
    (hl : ls.size = M.1.2.2.1) (hw : q_W D cy lo σ s H) (hS : va_S (fun q => lo ≤ q) s.heap H locs) (hcl : cells + z0 = σ.2.1) (hsl : slots + w0 = σ.2.2) (hrm : σ1.2.1 ≤ z0 + R.cells ∧ σ1.2.2 ≤ w0 + R.slots) (hrest : rest.length ≤ 4)
    (kk : ∀ (H1 : Heap) (locs1 : List Loc) (cells1 slots1 : Nat), q_W D cy lo σ1 s H1 → va_S (fun q => lo ≤ q) s.heap H1 locs1 → cells1 + z0 = σ1.2.1 → slots1 + w0 = σ1.2.2 → W p l e R s m args below meth c H1 locs1 cells1 slots1 Q (F0 m (pc + 3) ls (v.toList ++ rest))) :
    W p l e R s m args below meth c H locs cells slots Q (F0 m pc ls (As.reverse ++ rest)) := by
  obtain ⟨hx, hb, hml, hown, hts, hKK, hlo, hnm, hfr, hloc⟩ := C0
  obtain ⟨hrecv, hlen, -, -⟩ := q_recvc hc
  unfold q_okm at hom
  obtain ⟨hom, hok⟩ := q_and hom
  obtain ⟨hom, h6⟩ := q_and hom
  obtain ⟨hom, h5⟩ := q_and hom
  obtain ⟨hom, h4⟩ := q_and hom
  obtain ⟨hom, h3⟩ := q_and hom
  obtain ⟨h1, h2⟩ := q_and hom
  have h5 := of_decide_eq_true h5
  have h6 := Nat.le_of_ble_eq_true h6
  have hG : GoodIn q_WS (Cond.code (q_ms j).1.1 (q_ms j).1.2.1 (q_ms j).1.2.2.1 (q_ms j).1.2.2.2 :: q_WS) := q_WSg (q_gd_in h1) _ (fun _ h => h)
  have hini := hts _ (q_gd_in h2)
  have hR : (q_rm j (σ1.2.1 - σ.2.1) (σ1.2.2 - σ.2.2)).frames + 1 ≤ R.frames ∧ 8 + ((q_ms j).1.2.2.1 + 11) + (q_rm j (σ1.2.1 - σ.2.1) (σ1.2.2 - σ.2.2)).locals ≤ R.locals := by
    have e1 : (q_rm j (σ1.2.1 - σ.2.1) (σ1.2.2 - σ.2.2)).frames = j + 1 := rfl
    have e2 : (q_rm j (σ1.2.1 - σ.2.1) (σ1.2.2 - σ.2.2)).locals = 40 * (j + 1) := rfl
    omega
  have hf : cells + (σ1.2.1 - σ.2.1) ≤ R.cells ∧ slots + (σ1.2.2 - σ.2.2) ≤ R.slots := by
    have := hle.1; have := hle.2; omega
  have hfin := fun (H1 : Heap) (locs1 : List Loc) (a1 : q_W D cy lo σ1 s H1) (a2 : va_S (fun q => lo ≤ q) s.heap H1 locs1) => kk H1 locs1 (cells + (σ1.2.1 - σ.2.1)) (slots + (σ1.2.2 - σ.2.2)) a1 a2 (by have := hle.1; omega) (by have := hle.2; omega)
  have hpre : ∀ U : State, U.heap = H → s.WarmedH U.vm → va_Pc As (fun U => q_W D cy lo σ U U.heap ∧ q_KK D cy U) As.toArray U := fun U hU hW => ⟨rfl, by rw [hU]; exact hw.moved hW.alike, hKK.warm hW⟩
  have hnL : (F0 m pc ls (As.reverse ++ rest)).locals.size = M.1.2.2.1 := hl
  rcases hkd2 with rfl | rfl | rfl
  · rw [hkd] at hok
    obtain ⟨g1, g2⟩ := q_and hok
    have g2 := of_decide_eq_true g2
    rw [if_pos rfl] at hdg
    rcases hlk with hlk | hlk
    · exact q_after (va_runS (As := As) (rest := rest) ⟨hx, hb, hml, hown, hts⟩ hM ⟨callB_of As.length hts hG rfl rfl rfl hini (hts _ hlk) ⟨h5.1, h5.2, by rw [hlen]; exact g2⟩ hR, hts _ (q_gd_in g1)⟩ ⟨q_blind, hpre⟩ rfl rfl hnL rfl (lv_room (m := m) (pc := pc) (ls := ls) (rest := As.reverse ++ rest) (q_cats hrest)) hdg hf) (fun _ _ _ h => h) hS (fun _ h => h) hfin
    · exact q_after (va_runSN (As := As) (rest := rest) ⟨hx, hb, hml, hown, hts⟩ hM ⟨va_cnB As.length hts hG rfl rfl rfl (hKK.2.1 _ hlk) hini ⟨h5.1, h5.2, by rw [hlen]; exact g2⟩ hR, hts _ (q_gd_in g1), trivial⟩ ⟨q_blind, hpre⟩ rfl rfl hnL rfl (lv_room (m := m) (pc := pc) (ls := ls) (rest := As.reverse ++ rest) (q_cats hrest)) hdg hf) (fun _ _ _ h => h) hS (fun _ h => h) hfin
  · rw [hkd] at hok
    obtain ⟨hok, g5⟩ := q_and hok
    obtain ⟨hok, g4⟩ := q_and hok
    obtain ⟨hok, g3⟩ := q_and hok
    obtain ⟨g1, g2⟩ := q_and hok
    have g4 := of_decide_eq_true g4
    have g5 := of_decide_eq_true g5
    have g3 := Nat.blt_eq.mp g3
    rw [if_neg (by decide), if_pos rfl] at hdg
    obtain ⟨fs, hob⟩ := hrecv (by rw [hkd]; decide)
    obtain ⟨b, hb1, hb2⟩ := q_obj_some hob
    obtain ⟨As', rfl⟩ : ∃ As', As = .ref b :: As' := by
      cases As with
      | nil => cases hb1
      | cons x y => exact ⟨y, by rw [show x = .ref b from hb1]⟩
    have hcell := hw.2 b _ hb2
    have hrc := va_recv (q0 := 0) hKK.1 (q_one hcell.1) (q_cls_at _ g3) rfl
    rw [g4] at hrc
    have hn : (parseMethodDescriptor (q_ms j).1.1.desc).map (fun d => d.parameters.length) = some As'.length := by
      rw [← hlen] at g5
      cases hp : parseMethodDescriptor (q_ms j).1.1.desc with
      | none => rw [hp] at g5; cases g5
      | some d =>
        rw [hp] at g5
        have : d.parameters.length + 1 = As'.length + 1 := Option.some.inj g5
        show some d.parameters.length = some As'.length
        exact congrArg some (by omega)
    have hst : (Value.ref b :: As').reverse ++ rest = As'.reverse ++ .ref b :: rest := by simp
    rw [hst] at hnL ⊢
    rcases hlk with hlk | hlk
    · exact q_after (va_runV (As := As') (rest := rest) ⟨hx, hb, hml, hown, hts⟩ hM ⟨callB_of As'.length hts hG rfl rfl rfl hini (hts _ hlk) ⟨h5.1, h5.2, hn⟩ hR, hts _ (q_gd_in g1), hts _ (q_gd_in g2)⟩ ⟨q_blind, hrc, hpre⟩ rfl rfl hnL rfl (lv_room (m := m) (pc := pc) (ls := ls) (rest := As'.reverse ++ .ref b :: rest) (q_cats hrest)) hdg hf) (fun _ _ _ h => h) hS (fun _ h => h) hfin
    · exact q_after (va_runVN (As := As') (rest := rest) ⟨hx, hb, hml, hown, hts⟩ hM ⟨va_cnB As'.length hts hG rfl rfl rfl (hKK.2.1 _ hlk) hini ⟨h5.1, h5.2, hn⟩ hR, hts _ (q_gd_in g1), hts _ (q_gd_in g2)⟩ ⟨q_blind, hrc, hpre⟩ rfl rfl hnL rfl (lv_room (m := m) (pc := pc) (ls := ls) (rest := As'.reverse ++ .ref b :: rest) (q_cats hrest)) hdg hf) (fun _ _ _ h => h) hS (fun _ h => h) hfin
  · rw [hkd] at hok
    obtain ⟨hok, g4⟩ := q_and hok
    obtain ⟨hok, g3⟩ := q_and hok
    obtain ⟨g1, g2⟩ := q_and hok
    have g4 := of_decide_eq_true g4
    have g3 := of_decide_eq_true g3
    have g2 := of_decide_eq_true g2
    rw [if_neg (by decide), if_neg (by decide)] at hdg
    obtain ⟨fs, hob⟩ := hrecv (by rw [hkd]; decide)
    obtain ⟨b, hb1, hb2⟩ := q_obj_some hob
    obtain ⟨As', rfl⟩ : ∃ As', As = .ref b :: As' := by
      cases As with
      | nil => cases hb1
      | cons x y => exact ⟨y, by rw [show x = .ref b from hb1]⟩
    have hn : (parseMethodDescriptor (q_ms j).1.1.desc).map (fun d => d.parameters.length) = some As'.length := by
      rw [← hlen] at g4
      cases hp : parseMethodDescriptor (q_ms j).1.1.desc with
      | none => rw [hp] at g4; cases g4
      | some d =>
        rw [hp] at g4
        have : d.parameters.length + 1 = As'.length + 1 := Option.some.inj g4
        show some d.parameters.length = some As'.length
        exact congrArg some (by omega)
    have hst : (Value.ref b :: As').reverse ++ rest = As'.reverse ++ .ref b :: rest := by simp
    rw [hst] at hnL ⊢
    have hw0 : (Cond.code (q_ms j).1.1 (q_ms j).1.2.1 (q_ms j).1.2.2.1 (q_ms j).1.2.2.2 :: q_WS) = Cond.code (q_ms j).1.1 (q_ms j).1.2.1 (q_ms j).1.2.2.1 none :: q_WS := by rw [g3]
    rcases hlk with hlk | hlk
    · exact q_after (va_runI (As := As') (rest := rest) ⟨hx, hb, hml, hown, hts⟩ hM ⟨callB_of As'.length hts hG hw0 rfl rfl hini (hts _ hlk) ⟨h5.1, h5.2, hn⟩ hR, g2, hts _ (q_gd_in g1)⟩ ⟨q_blind, hpre⟩ rfl rfl hnL rfl (lv_room (m := m) (pc := pc) (ls := ls) (rest := As'.reverse ++ .ref b :: rest) (q_cats hrest)) hdg hf) (fun _ _ _ h => h) hS (fun _ h => h) hfin
    · exact q_after (va_runIN (As := As') (rest := rest) ⟨hx, hb, hml, hown, hts⟩ hM ⟨va_cnB As'.length hts hG hw0 rfl rfl (hKK.2.1 _ hlk) hini ⟨h5.1, h5.2, hn⟩ hR, g2, hts _ (q_gd_in g1)⟩ ⟨q_blind, hpre⟩ rfl rfl hnL rfl (lv_room (m := m) (pc := pc) (ls := ls) (rest := As'.reverse ++ .ref b :: rest) (q_cats hrest)) hdg hf) (fun _ _ _ h => h) hS (fun _ h => h) hfin
theorem q_mw : q_gd 1009 (.initialized "java/lang/Math") = true ∧ (q_gd 2008 (.static Lib.Math.min.name) = true ∧ q_gd 2009 (.code Lib.Math.min.name Lib.Math.min.code 2 (some .int)) = true) ∧ (q_gd 3123 (.static Lib.Math.max.name) = true ∧ q_gd 3124 (.code Lib.Math.max.name Lib.Math.max.code 2 (some .int)) = true) := by decide +kernel
/-- a step, backwards: from a run behind it, a run at it -/
theorem q_step_W {k z0 w0 : Nat} {M : qM} (C0 : q_Cx p R s m args meth c k M D cy lo) (hok : M.2.2.2.all (q_ok k M) = true)
    (HM : ∀ j, j < k → ∀ As σ v σ1, q_call j As σ = some (v, σ1) → lo ≤ σ.2.1 → q_okm (q_ms j) = true ∧ q_Mt l D cy lo j As σ v σ1 ∧ q_le σ σ1)
    {pc : Nat} {L0 : qL} {st : List Value} {σ : qH} {pc' : Nat} {L' : qL} {st' : List Value} {σ' : qH} (hst : q_step k M.2.2.2 q_call pc L0 st σ = some (.inr (pc', L', st', σ'))) (hrm : σ'.2.1 ≤ z0 + R.cells ∧ σ'.2.2 ≤ w0 + R.slots)
    (hW : q_Wk p l e R s m args below meth c Q M.1.2.2.1 D cy lo z0 w0 pc' L' st' σ') : q_Wk p l e R s m args below meth c Q M.1.2.2.1 D cy lo z0 w0 pc L0 st σ := by
  have C1 := C0
  obtain ⟨hx, hb, hml, hown, hts, hKK, hlo, hnm, hfr, hloc⟩ := C0
  have hK := hKK.1
  unfold q_step q_F at hst
  split at hst
  · cases hst
  next en hen =>
  have hoke := List.all_eq_true.mp hok _ (q_lookup_mem hen)
  obtain ⟨ins, nx, kp, ax, cv, sw⟩ := en
  obtain ⟨hd0, hx0⟩ := q_and hoke
  have hdec : decode M.1.2.1 pc = .ok (ins, nx - pc) := of_decide_eq_true hd0
  dsimp only at hst hx0
  intro H locs ls cells slots hl0 hw hS hcl hsl
  have hl : lv_has ls M.1.2.2.1 (q_keep kp L0) := q_keep_has hl0 kp
  have hsz : ls.size = M.1.2.2.1 := hl0.1
  generalize q_keep kp L0 = L at hl hst
  cases ins
  case iconst n =>
    dsimp only [q_okx] at hx0
    obtain ⟨h1, h2⟩ := q_and hx0
    obtain ⟨hdg, rfl⟩ := q_dec hdec h1
    have h2 := of_decide_eq_true h2
    subst h2
    dsimp only [q_G, q_K] at hst
    cases hst
    exact lv_iconst hx hb hdg rfl (hW _ _ _ _ _ hl hw hS hcl hsl)
  case bipush n =>
    dsimp only [q_okx] at hx0
    obtain ⟨h1, h2⟩ := q_and hx0
    obtain ⟨hdg, rfl⟩ := q_dec hdec h1
    have h2 := of_decide_eq_true h2
    subst h2
    dsimp only [q_G, q_K] at hst
    cases hst
    exact lv_bipush hx hb hdg rfl (hW _ _ _ _ _ hl hw hS hcl hsl)
  case sipush n =>
    dsimp only [q_okx] at hx0
    obtain ⟨h1, h2⟩ := q_and hx0
    obtain ⟨hdg, rfl⟩ := q_dec hdec h1
    have h2 := of_decide_eq_true h2
    subst h2
    dsimp only [q_G, q_K] at hst
    cases hst
    exact lv_sipush hx hb hdg rfl (hW _ _ _ _ _ hl hw hS hcl hsl)
  case lconst n =>
    dsimp only [q_okx] at hx0
    obtain ⟨h1, h2⟩ := q_and hx0
    obtain ⟨hdg, rfl⟩ := q_dec hdec h1
    have h2 := of_decide_eq_true h2
    subst h2
    dsimp only [q_G, q_K] at hst
    cases hst
    exact lv_lconst hx hb hdg rfl (hW _ _ _ _ _ hl hw hS hcl hsl)
  case ldc i =>
    dsimp only [q_okx] at hx0
    obtain ⟨h1, h2⟩ := q_and hx0
    obtain ⟨hdg, rfl⟩ := q_dec hdec h1
    split at h2
    · dsimp only [q_G, q_K] at hst
      cases hst
      exact lv_ldc hx hb hown (hts _ (q_gd_in h2)) hdg (hW _ _ _ _ _ hl hw hS hcl hsl)
    · cases h2
  case ldc_w i =>
    dsimp only [q_okx] at hx0
    obtain ⟨h1, h2⟩ := q_and hx0
    obtain ⟨hdg, rfl⟩ := q_dec hdec h1
    split at h2
    · dsimp only [q_G, q_K] at hst
      cases hst
      exact lv_ldcw hx hb hown (hts _ (q_gd_in h2)) hdg (hW _ _ _ _ _ hl hw hS hcl hsl)
    · cases h2
  case ldc2_w i =>
    dsimp only [q_okx] at hx0
    obtain ⟨h1, h2⟩ := q_and hx0
    obtain ⟨hdg, rfl⟩ := q_dec hdec h1
    split at h2
    · dsimp only [q_G, q_K] at hst
      cases hst
      exact lv_ldc2 hx hb hown (hts _ (q_gd_in h2)) hdg (hW _ _ _ _ _ hl hw hS hcl hsl)
    · cases h2
  case aconst_null =>
    dsimp only [q_okx] at hx0
    obtain ⟨hdg, rfl⟩ := q_dec hdec hx0
    dsimp only [q_G, q_K] at hst
    cases hst
    exact lv_null hx hb hdg (hW _ _ _ _ _ hl hw hS hcl hsl)
  case iload i =>
    dsimp only [q_okx] at hx0
    obtain ⟨h1, h2⟩ := q_and hx0
    obtain ⟨hdg, rfl⟩ := q_dec hdec h1
    have h2 := Nat.eq_of_beq_eq_true h2
    subst h2
    dsimp only [q_G, q_K] at hst
    obtain ⟨x, hr, hst2⟩ := q_ob_some hst
    clear hst
    have hst := hst2
    clear hst2
    obtain ⟨kk, -, hr2⟩ := q_rdI_has hl hr
    cases hst
    exact lv_iload hx hb hdg hr2 (hW _ _ _ _ _ hl hw hS hcl hsl)
  case lload i =>
    dsimp only [q_okx] at hx0
    obtain ⟨h1, h2⟩ := q_and hx0
    obtain ⟨hdg, rfl⟩ := q_dec hdec h1
    have h2 := Nat.eq_of_beq_eq_true h2
    subst h2
    dsimp only [q_G, q_K] at hst
    obtain ⟨x, hr, hst2⟩ := q_ob_some hst
    clear hst
    have hst := hst2
    clear hst2
    have hr2 := q_rdL_has hl hr
    cases hst
    exact lv_lload hx hb hdg hr2 (hW _ _ _ _ _ hl hw hS hcl hsl)
  case iload_n i =>
    dsimp only [q_okx] at hx0
    obtain ⟨h1, h2⟩ := q_and hx0
    obtain ⟨hdg, rfl⟩ := q_dec hdec h1
    have h2 := Nat.eq_of_beq_eq_true h2
    dsimp only [q_G, q_K] at hst
    obtain ⟨x, hr, hst2⟩ := q_ob_some hst
    clear hst
    have hst := hst2
    clear hst2
    obtain ⟨kk, -, hr2⟩ := q_rdI_has hl hr
    cases hst
    exact lv_iload_n hx hb hdg h2.symm hr2 (hW _ _ _ _ _ hl hw hS hcl hsl)
  case lload_n i =>
    dsimp only [q_okx] at hx0
    obtain ⟨h1, h2⟩ := q_and hx0
    obtain ⟨hdg, rfl⟩ := q_dec hdec h1
    have h2 := Nat.eq_of_beq_eq_true h2
    dsimp only [q_G, q_K] at hst
    obtain ⟨x, hr, hst2⟩ := q_ob_some hst
    clear hst
    have hst := hst2
    clear hst2
    have hr2 := q_rdL_has hl hr
    cases hst
    exact lv_lload_n hx hb hdg h2.symm hr2 (hW _ _ _ _ _ hl hw hS hcl hsl)
  case aload i =>
    dsimp only [q_okx] at hx0
    obtain ⟨h1, h2⟩ := q_and hx0
    obtain ⟨hdg, rfl⟩ := q_dec hdec h1
    have h2 := Nat.eq_of_beq_eq_true h2
    subst h2
    dsimp only [q_G, q_K] at hst
    obtain ⟨x, hr, hst2⟩ := q_ob_some hst
    clear hst
    have hst := hst2
    clear hst2
    obtain ⟨hv, hr2⟩ := q_rdA_has hl hr
    cases hst
    rcases hv with ⟨y, rfl⟩ | rfl
    · exact lv_aload hx hb hdg hr2 (hW _ _ _ _ _ hl hw hS hcl hsl)
    · exact lv_aloadN hx hb hdg hr2 (hW _ _ _ _ _ hl hw hS hcl hsl)
  case aload_n i =>
    dsimp only [q_okx] at hx0
    obtain ⟨h1, h2⟩ := q_and hx0
    obtain ⟨hdg, rfl⟩ := q_dec hdec h1
    have h2 := Nat.eq_of_beq_eq_true h2
    dsimp only [q_G, q_K] at hst
    obtain ⟨x, hr, hst2⟩ := q_ob_some hst
    clear hst
    have hst := hst2
    clear hst2
    obtain ⟨hv, hr2⟩ := q_rdA_has hl hr
    cases hst
    rcases hv with ⟨y, rfl⟩ | rfl
    · exact lv_aload_n hx hb hdg h2.symm hr2 (hW _ _ _ _ _ hl hw hS hcl hsl)
    · exact lv_aload_nN hx hb hdg h2.symm hr2 (hW _ _ _ _ _ hl hw hS hcl hsl)
  case istore i =>
    dsimp only [q_okx] at hx0
    obtain ⟨hx0, h3⟩ := q_and hx0
    obtain ⟨h1, h2⟩ := q_and hx0
    obtain ⟨hdg, rfl⟩ := q_dec hdec h1
    have h2 := Nat.eq_of_beq_eq_true h2
    have h3 := Nat.blt_eq.mp h3
    subst h2
    dsimp only [q_G, q_K] at hst
    split at hst
    · cases hst
      exact lv_istore hx hb hdg hl h3 rfl (fun ls hl => hW _ _ _ _ _ hl hw hS hcl hsl)
    · cases hst
  case lstore i =>
    dsimp only [q_okx] at hx0
    obtain ⟨hx0, h3⟩ := q_and hx0
    obtain ⟨h1, h2⟩ := q_and hx0
    obtain ⟨hdg, rfl⟩ := q_dec hdec h1
    have h2 := Nat.eq_of_beq_eq_true h2
    have h3 := Nat.blt_eq.mp h3
    subst h2
    dsimp only [q_G, q_K] at hst
    split at hst
    · cases hst
      exact lv_lstore hx hb hdg hl h3 rfl (fun ls hl => hW _ _ _ _ _ hl hw hS hcl hsl)
    · cases hst
  case istore_n i =>
    dsimp only [q_okx] at hx0
    obtain ⟨hx0, h3⟩ := q_and hx0
    obtain ⟨h1, h2⟩ := q_and hx0
    obtain ⟨hdg, rfl⟩ := q_dec hdec h1
    have h2 := Nat.eq_of_beq_eq_true h2
    have h3 := Nat.blt_eq.mp h3
    dsimp only [q_G, q_K] at hst
    split at hst
    · cases hst
      exact lv_istore_n hx hb hdg h2.symm hl h3 rfl (fun ls hl => hW _ _ _ _ _ hl hw hS hcl hsl)
    · cases hst
  case lstore_n i =>
    dsimp only [q_okx] at hx0
    obtain ⟨hx0, h3⟩ := q_and hx0
    obtain ⟨h1, h2⟩ := q_and hx0
    obtain ⟨hdg, rfl⟩ := q_dec hdec h1
    have h2 := Nat.eq_of_beq_eq_true h2
    have h3 := Nat.blt_eq.mp h3
    dsimp only [q_G, q_K] at hst
    split at hst
    · cases hst
      exact lv_lstore_n hx hb hdg h2.symm hl h3 rfl (fun ls hl => hW _ _ _ _ _ hl hw hS hcl hsl)
    · cases hst
  case astore i =>
    dsimp only [q_okx] at hx0
    obtain ⟨hx0, h3⟩ := q_and hx0
    obtain ⟨h1, h2⟩ := q_and hx0
    obtain ⟨hdg, rfl⟩ := q_dec hdec h1
    have h2 := Nat.eq_of_beq_eq_true h2
    have h3 := Nat.blt_eq.mp h3
    subst h2
    dsimp only [q_G, q_K] at hst
    split at hst
    · cases hst
      exact lv_astore hx hb hdg hl h3 rfl (fun ls hl => hW _ _ _ _ _ hl hw hS hcl hsl)
    · cases hst
      exact lv_astoreN hx hb hdg hl h3 rfl (fun ls hl => hW _ _ _ _ _ hl hw hS hcl hsl)
    · cases hst
  case astore_n i =>
    dsimp only [q_okx] at hx0
    obtain ⟨hx0, h3⟩ := q_and hx0
    obtain ⟨h1, h2⟩ := q_and hx0
    obtain ⟨hdg, rfl⟩ := q_dec hdec h1
    have h2 := Nat.eq_of_beq_eq_true h2
    have h3 := Nat.blt_eq.mp h3
    dsimp only [q_G, q_K] at hst
    split at hst
    · cases hst
      exact lv_astore_n hx hb hdg h2.symm hl h3 rfl (fun ls hl => hW _ _ _ _ _ hl hw hS hcl hsl)
    · cases hst
      exact lv_astore_nN hx hb hdg h2.symm hl h3 rfl (fun ls hl => hW _ _ _ _ _ hl hw hS hcl hsl)
    · cases hst
  case iinc i n =>
    dsimp only [q_okx] at hx0
    obtain ⟨hx0, h4⟩ := q_and hx0
    obtain ⟨hx0, h3⟩ := q_and hx0
    obtain ⟨h1, h2⟩ := q_and hx0
    obtain ⟨hdg, rfl⟩ := q_dec hdec h1
    have h2 := Nat.eq_of_beq_eq_true h2
    have h3 := Nat.blt_eq.mp h3
    have h4 := of_decide_eq_true h4
    subst h2
    subst h4
    dsimp only [q_G, q_K] at hst
    obtain ⟨x, hr, hst2⟩ := q_ob_some hst
    clear hst
    have hst := hst2
    clear hst2
    obtain ⟨kk, hk, -⟩ := q_rdI_has hl hr
    cases hst
    exact lv_iinc hx hb hdg hl hk rfl h3 rfl (fun ls hl => hW _ _ _ _ _ hl hw hS hcl hsl)
  case iadd =>
    dsimp only [q_okx] at hx0
    obtain ⟨hdg, rfl⟩ := q_dec hdec hx0
    dsimp only [q_G, q_K] at hst
    split at hst
    · cases hst
      exact lv_iadd hx hb hdg (hW _ _ _ _ _ hl hw hS hcl hsl)
    · cases hst
  case isub =>
    dsimp only [q_okx] at hx0
    obtain ⟨hdg, rfl⟩ := q_dec hdec hx0
    dsimp only [q_G, q_K] at hst
    split at hst
    · cases hst
      exact lv_isub hx hb hdg (hW _ _ _ _ _ hl hw hS hcl hsl)
    · cases hst
  case imul =>
    dsimp only [q_okx] at hx0
    obtain ⟨hdg, rfl⟩ := q_dec hdec hx0
    dsimp only [q_G, q_K] at hst
    split at hst
    · cases hst
      exact lv_imul hx hb hdg (hW _ _ _ _ _ hl hw hS hcl hsl)
    · cases hst
  case iand =>
    dsimp only [q_okx] at hx0
    obtain ⟨hdg, rfl⟩ := q_dec hdec hx0
    dsimp only [q_G, q_K] at hst
    split at hst
    · cases hst
      exact lv_iand hx hb hdg (hW _ _ _ _ _ hl hw hS hcl hsl)
    · cases hst
  case ior =>
    dsimp only [q_okx] at hx0
    obtain ⟨hdg, rfl⟩ := q_dec hdec hx0
    dsimp only [q_G, q_K] at hst
    split at hst
    · cases hst
      exact lv_ior hx hb hdg (hW _ _ _ _ _ hl hw hS hcl hsl)
    · cases hst
  case ixor =>
    dsimp only [q_okx] at hx0
    obtain ⟨hdg, rfl⟩ := q_dec hdec hx0
    dsimp only [q_G, q_K] at hst
    split at hst
    · cases hst
      exact lv_ixor hx hb hdg (hW _ _ _ _ _ hl hw hS hcl hsl)
    · cases hst
  case ladd =>
    dsimp only [q_okx] at hx0
    obtain ⟨hdg, rfl⟩ := q_dec hdec hx0
    dsimp only [q_G, q_K] at hst
    split at hst
    · cases hst
      exact lv_ladd hx hb hdg (hW _ _ _ _ _ hl hw hS hcl hsl)
    · cases hst
  case land =>
    dsimp only [q_okx] at hx0
    obtain ⟨hdg, rfl⟩ := q_dec hdec hx0
    dsimp only [q_G, q_K] at hst
    split at hst
    · cases hst
      exact lv_land hx hb hdg (hW _ _ _ _ _ hl hw hS hcl hsl)
    · cases hst
  case lor =>
    dsimp only [q_okx] at hx0
    obtain ⟨hdg, rfl⟩ := q_dec hdec hx0
    dsimp only [q_G, q_K] at hst
    split at hst
    · cases hst
      exact lv_lor hx hb hdg (hW _ _ _ _ _ hl hw hS hcl hsl)
    · cases hst
  case lxor =>
    dsimp only [q_okx] at hx0
    obtain ⟨hdg, rfl⟩ := q_dec hdec hx0
    dsimp only [q_G, q_K] at hst
    split at hst
    · cases hst
      exact lv_lxor hx hb hdg (hW _ _ _ _ _ hl hw hS hcl hsl)
    · cases hst
  case idiv =>
    dsimp only [q_okx] at hx0
    obtain ⟨hdg, rfl⟩ := q_dec hdec hx0
    dsimp only [q_G, q_K] at hst
    split at hst
    · split at hst
      · cases hst
      · next hne => cases hst; exact lv_idiv hx hb hdg hne (hW _ _ _ _ _ hl hw hS hcl hsl)
    · cases hst
  case irem =>
    dsimp only [q_okx] at hx0
    obtain ⟨hdg, rfl⟩ := q_dec hdec hx0
    dsimp only [q_G, q_K] at hst
    split at hst
    · split at hst
      · cases hst
      · next hne => cases hst; exact lv_irem hx hb hdg hne (hW _ _ _ _ _ hl hw hS hcl hsl)
    · cases hst
  case ishl =>
    dsimp only [q_okx] at hx0
    obtain ⟨hdg, rfl⟩ := q_dec hdec hx0
    dsimp only [q_G, q_K] at hst
    split at hst
    · cases hst
      exact lv_ishl hx hb hdg (hW _ _ _ _ _ hl hw hS hcl hsl)
    · cases hst
  case ishr =>
    dsimp only [q_okx] at hx0
    obtain ⟨hdg, rfl⟩ := q_dec hdec hx0
    dsimp only [q_G, q_K] at hst
    split at hst
    · cases hst
      exact lv_ishr hx hb hdg (hW _ _ _ _ _ hl hw hS hcl hsl)
    · cases hst
  case iushr =>
    dsimp only [q_okx] at hx0
    obtain ⟨hdg, rfl⟩ := q_dec hdec hx0
    dsimp only [q_G, q_K] at hst
    split at hst
    · cases hst
      exact lv_iushr hx hb hdg rfl (hW _ _ _ _ _ hl hw hS hcl hsl)
    · cases hst
  case lushr =>
    dsimp only [q_okx] at hx0
    obtain ⟨hdg, rfl⟩ := q_dec hdec hx0
    dsimp only [q_G, q_K] at hst
    split at hst
    · cases hst
      exact lv_lushr hx hb hdg rfl (hW _ _ _ _ _ hl hw hS hcl hsl)
    · cases hst
  case lshl =>
    dsimp only [q_okx] at hx0
    obtain ⟨hdg, rfl⟩ := q_dec hdec hx0
    dsimp only [q_G, q_K] at hst
    split at hst
    · cases hst
      exact lv_lshl hx hb hdg rfl (hW _ _ _ _ _ hl hw hS hcl hsl)
    · cases hst
  case lshr =>
    dsimp only [q_okx] at hx0
    obtain ⟨hdg, rfl⟩ := q_dec hdec hx0
    dsimp only [q_G, q_K] at hst
    split at hst
    · cases hst
      exact lv_lshr hx hb hdg rfl (hW _ _ _ _ _ hl hw hS hcl hsl)
    · cases hst
  case i2l =>
    dsimp only [q_okx] at hx0
    obtain ⟨hdg, rfl⟩ := q_dec hdec hx0
    dsimp only [q_G, q_K] at hst
    split at hst
    · cases hst
      exact lv_i2l hx hb hdg rfl (hW _ _ _ _ _ hl hw hS hcl hsl)
    · cases hst
  case l2i =>
    dsimp only [q_okx] at hx0
    obtain ⟨hdg, rfl⟩ := q_dec hdec hx0
    dsimp only [q_G, q_K] at hst
    split at hst
    · cases hst
      exact lv_l2i hx hb hdg rfl (hW _ _ _ _ _ hl hw hS hcl hsl)
    · cases hst
  case i2c =>
    dsimp only [q_okx] at hx0
    obtain ⟨hdg, rfl⟩ := q_dec hdec hx0
    dsimp only [q_G, q_K] at hst
    split at hst
    · cases hst
      exact lv_i2c hx hb hdg rfl (hW _ _ _ _ _ hl hw hS hcl hsl)
    · cases hst
  case lcmp =>
    dsimp only [q_okx] at hx0
    obtain ⟨hdg, rfl⟩ := q_dec hdec hx0
    dsimp only [q_G, q_K] at hst
    split at hst
    · cases hst
      exact W.lcmp hx hb hdg (hW _ _ _ _ _ hl hw hS hcl hsl)
    · cases hst
  case pop =>
    dsimp only [q_okx] at hx0
    obtain ⟨hdg, rfl⟩ := q_dec hdec hx0
    dsimp only [q_G, q_K] at hst
    split at hst
    · cases hst
      exact lv_pop hx hb hdg rfl (hW _ _ _ _ _ hl hw hS hcl hsl)
    · cases hst
  case dup =>
    dsimp only [q_okx] at hx0
    obtain ⟨hdg, rfl⟩ := q_dec hdec hx0
    dsimp only [q_G, q_K] at hst
    split at hst
    · cases hst
      exact lv_dup hx hb hdg rfl (hW _ _ _ _ _ hl hw hS hcl hsl)
    · cases hst
      exact lv_dup hx hb hdg rfl (hW _ _ _ _ _ hl hw hS hcl hsl)
    · cases hst
  case dup2 =>
    dsimp only [q_okx] at hx0
    obtain ⟨hdg, rfl⟩ := q_dec hdec hx0
    dsimp only [q_G, q_K] at hst
    split at hst
    · cases hst
      exact lv_dup2_2 hx hb hdg rfl (hW _ _ _ _ _ hl hw hS hcl hsl)
    · cases hst
      exact lv_dup2_11 hx hb hdg rfl rfl (hW _ _ _ _ _ hl hw hS hcl hsl)
    · cases hst
  case goto off =>
    dsimp only [q_okx] at hx0
    obtain ⟨ht, h1⟩ := q_and hx0
    have ht := of_decide_eq_true ht
    obtain ⟨hdg, rfl⟩ := q_dec hdec h1
    dsimp only [q_G, q_K] at hst
    cases hst
    exact lv_goto hx hb hdg ht (hW _ _ _ _ _ hl hw hS hcl hsl)
  case if_icmp cc0 off =>
    dsimp only [q_okx] at hx0
    obtain ⟨ht, h1⟩ := q_and hx0
    have ht := of_decide_eq_true ht
    obtain ⟨hdg, rfl⟩ := q_dec hdec h1
    cases cc0
    · dsimp only [q_G, q_K] at hst
      split at hst
      · refine lv_icmp_eq hx hb hdg ht (fun hc => ?_) (fun hc => ?_)
        · rw [if_pos hc] at hst; cases hst; exact (hW _ _ _ _ _ hl hw hS hcl hsl)
        · rw [if_neg hc] at hst; cases hst; exact (hW _ _ _ _ _ hl hw hS hcl hsl)
      · cases hst
    · dsimp only [q_G, q_K] at hst
      split at hst
      · refine lv_icmp_ne hx hb hdg ht (fun hc => ?_) (fun hc => ?_)
        · rw [if_neg hc] at hst; cases hst; exact (hW _ _ _ _ _ hl hw hS hcl hsl)
        · rw [if_pos hc] at hst; cases hst; exact (hW _ _ _ _ _ hl hw hS hcl hsl)
      · cases hst
    · dsimp only [q_G, q_K] at hst
      split at hst
      · refine lv_icmp_lt hx hb hdg ht (fun hc => ?_) (fun hc => ?_)
        · rw [if_pos hc] at hst; cases hst; exact (hW _ _ _ _ _ hl hw hS hcl hsl)
        · rw [if_neg hc] at hst; cases hst; exact (hW _ _ _ _ _ hl hw hS hcl hsl)
      · cases hst
    · dsimp only [q_G, q_K] at hst
      split at hst
      · refine lv_icmp_ge hx hb hdg ht (fun hc => ?_) (fun hc => ?_)
        · rw [if_pos hc] at hst; cases hst; exact (hW _ _ _ _ _ hl hw hS hcl hsl)
        · rw [if_neg hc] at hst; cases hst; exact (hW _ _ _ _ _ hl hw hS hcl hsl)
      · cases hst
    · dsimp only [q_G, q_K] at hst
      split at hst
      · refine lv_icmp_gt hx hb hdg ht (fun hc => ?_) (fun hc => ?_)
        · rw [if_pos hc] at hst; cases hst; exact (hW _ _ _ _ _ hl hw hS hcl hsl)
        · rw [if_neg hc] at hst; cases hst; exact (hW _ _ _ _ _ hl hw hS hcl hsl)
      · cases hst
    · dsimp only [q_G, q_K] at hst
      split at hst
      · refine lv_icmp_le hx hb hdg ht (fun hc => ?_) (fun hc => ?_)
        · rw [if_pos hc] at hst; cases hst; exact (hW _ _ _ _ _ hl hw hS hcl hsl)
        · rw [if_neg hc] at hst; cases hst; exact (hW _ _ _ _ _ hl hw hS hcl hsl)
      · cases hst
  case ifCond cc0 off =>
    dsimp only [q_okx] at hx0
    obtain ⟨ht, h1⟩ := q_and hx0
    have ht := of_decide_eq_true ht
    obtain ⟨hdg, rfl⟩ := q_dec hdec h1
    cases cc0
    · dsimp only [q_G, q_K] at hst
      split at hst
      · refine lv_if_eq hx hb hdg ht (fun hc => ?_) (fun hc => ?_)
        · rw [if_pos hc] at hst; cases hst; exact (hW _ _ _ _ _ hl hw hS hcl hsl)
        · rw [if_neg hc] at hst; cases hst; exact (hW _ _ _ _ _ hl hw hS hcl hsl)
      · cases hst
    · dsimp only [q_G, q_K] at hst
      split at hst
      · refine lv_if_ne hx hb hdg ht (fun hc => ?_) (fun hc => ?_)
        · rw [if_neg hc] at hst; cases hst; exact (hW _ _ _ _ _ hl hw hS hcl hsl)
        · rw [if_pos hc] at hst; cases hst; exact (hW _ _ _ _ _ hl hw hS hcl hsl)
      · cases hst
    · dsimp only [q_G, q_K] at hst
      split at hst
      · refine lv_if_lt hx hb hdg ht (fun hc => ?_) (fun hc => ?_)
        · rw [if_pos hc] at hst; cases hst; exact (hW _ _ _ _ _ hl hw hS hcl hsl)
        · rw [if_neg hc] at hst; cases hst; exact (hW _ _ _ _ _ hl hw hS hcl hsl)
      · cases hst
    · dsimp only [q_G, q_K] at hst
      split at hst
      · refine lv_if_ge hx hb hdg ht (fun hc => ?_) (fun hc => ?_)
        · rw [if_pos hc] at hst; cases hst; exact (hW _ _ _ _ _ hl hw hS hcl hsl)
        · rw [if_neg hc] at hst; cases hst; exact (hW _ _ _ _ _ hl hw hS hcl hsl)
      · cases hst
    · dsimp only [q_G, q_K] at hst
      split at hst
      · refine lv_if_gt hx hb hdg ht (fun hc => ?_) (fun hc => ?_)
        · rw [if_pos hc] at hst; cases hst; exact (hW _ _ _ _ _ hl hw hS hcl hsl)
        · rw [if_neg hc] at hst; cases hst; exact (hW _ _ _ _ _ hl hw hS hcl hsl)
      · cases hst
    · dsimp only [q_G, q_K] at hst
      split at hst
      · refine lv_if_le hx hb hdg ht (fun hc => ?_) (fun hc => ?_)
        · rw [if_pos hc] at hst; cases hst; exact (hW _ _ _ _ _ hl hw hS hcl hsl)
        · rw [if_neg hc] at hst; cases hst; exact (hW _ _ _ _ _ hl hw hS hcl hsl)
      · cases hst
  case ifnull off =>
    dsimp only [q_okx] at hx0
    obtain ⟨ht, h1⟩ := q_and hx0
    have ht := of_decide_eq_true ht
    obtain ⟨hdg, rfl⟩ := q_dec hdec h1
    dsimp only [q_G, q_K] at hst
    split at hst
    · cases hst
      exact lv_ifnull hx hb hdg (hW _ _ _ _ _ hl hw hS hcl hsl)
    · cases hst
      exact lv_ifnullN hx hb hdg ht (hW _ _ _ _ _ hl hw hS hcl hsl)
    · cases hst
  case ifnonnull off =>
    dsimp only [q_okx] at hx0
    obtain ⟨ht, h1⟩ := q_and hx0
    have ht := of_decide_eq_true ht
    obtain ⟨hdg, rfl⟩ := q_dec hdec h1
    dsimp only [q_G, q_K] at hst
    split at hst
    · cases hst
      exact lv_ifnonnull hx hb hdg ht (hW _ _ _ _ _ hl hw hS hcl hsl)
    · cases hst
      exact lv_ifnonnullN hx hb hdg (hW _ _ _ _ _ hl hw hS hcl hsl)
    · cases hst
  case tableswitch d lo1 hi offs =>
    dsimp only [q_okx] at hx0
    obtain ⟨hx0, h3⟩ := q_and hx0
    obtain ⟨h1, h2⟩ := q_and hx0
    have h1 := of_decide_eq_true h1
    have h2 := of_decide_eq_true h2
    dsimp only [q_G, q_K] at hst
    split at hst
    · next x r =>
      rw [q_sw_eq] at hst
      cases hst
      rcases q_oksw_spec (d := ax.getD 0 0) (x := x) offs.toList sw lo1 h3 with ⟨i, o, g1, g2, g3⟩ | ⟨g1, g2⟩
      · have hlt : i < offs.toList.length := (List.getElem?_eq_some_iff.mp g1).1
        refine lv_tableIn hx hb hdec (off := o) (by omega) (by omega) ?_ g3 (hW _ _ _ _ _ hl hw hS hcl hsl)
        rw [show (x.toInt - lo1).toNat = i by omega, ← Array.getElem?_toList]
        exact g1
      · rw [g2] at hW
        exact lv_tableOut hx hb hdec (by omega) h1 (hW _ _ _ _ _ hl hw hS hcl hsl)
    · cases hst
  case lookupswitch d ps =>
    dsimp only [q_okx] at hx0
    obtain ⟨hx0, h3⟩ := q_and hx0
    obtain ⟨h1, h2⟩ := q_and hx0
    have h1 := of_decide_eq_true h1
    dsimp only [q_G, q_K] at hst
    split at hst
    · next x r =>
      rw [q_sw_eq] at hst
      cases hst
      exact lv_lookup hx hb hdec h2 rfl (q_okls_spec h1 ps.toList sw h3) (hW _ _ _ _ _ hl hw hS hcl hsl)
    · cases hst
  case getfield i =>
    dsimp only [q_okx] at hx0
    obtain ⟨hx0, h4⟩ := q_and hx0
    obtain ⟨hx0, h3⟩ := q_and hx0
    obtain ⟨h1, h2⟩ := q_and hx0
    obtain ⟨hdg, rfl⟩ := q_dec hdec h1
    have h2 := Nat.blt_eq.mp h2
    have h3 := Nat.blt_eq.mp h3
    dsimp only [q_G, q_K] at hst
    split at hst
    · split at hst
      · obtain ⟨x, hg, hst2⟩ := q_ob_some hst
        clear hst
        have hst := hst2
        clear hst2
        obtain ⟨a, fs, rfl, ha, hv⟩ := q_getI_some hg
        cases hst
        exact q_rget hx hb hts hown hK (hw.2 a _ ha).1 h2 h3 (q_gd_in h4) hv hdg (hW _ _ _ _ _ hl hw hS hcl hsl)
      · obtain ⟨x, hg, hst2⟩ := q_ob_some hst
        clear hst
        have hst := hst2
        clear hst2
        obtain ⟨a, fs, rfl, ha, hv⟩ := q_getL_some hg
        cases hst
        exact q_rget hx hb hts hown hK (hw.2 a _ ha).1 h2 h3 (q_gd_in h4) hv hdg (hW _ _ _ _ _ hl hw hS hcl hsl)
      · obtain ⟨x, hg, hst2⟩ := q_ob_some hst
        clear hst
        have hst := hst2
        clear hst2
        obtain ⟨a, fs, rfl, ha, hv⟩ := q_getR_some hg
        cases hst
        exact q_rget hx hb hts hown hK (hw.2 a _ ha).1 h2 h3 (q_gd_in h4) hv hdg (hW _ _ _ _ _ hl hw hS hcl hsl)
    · cases hst
  case putfield i =>
    dsimp only [q_okx] at hx0
    obtain ⟨hx0, h6⟩ := q_and hx0
    obtain ⟨hx0, h5⟩ := q_and hx0
    obtain ⟨hx0, h4⟩ := q_and hx0
    obtain ⟨hx0, h3⟩ := q_and hx0
    obtain ⟨h1, h2⟩ := q_and hx0
    obtain ⟨hdg, rfl⟩ := q_dec hdec h1
    have h2 := Nat.blt_eq.mp h2
    have h3 := Nat.blt_eq.mp h3
    have h5 := Nat.eq_of_beq_eq_true h5
    dsimp only [q_G, q_K] at hst
    split at hst
    · obtain ⟨s1, hp, hst2⟩ := q_ob_some hst
      clear hst
      have hst := hst2
      clear hst2
      obtain ⟨a, fs, rfl, ha, hlen, hov, rfl⟩ := q_put_some hp
      cases hst
      have hcell := hw.2 a _ ha
      have h7 : q_tc (q_fty (ax.getD 0 0) (ax.getD 1 0)) < 5 := Nat.blt_eq.mp (List.all_eq_true.mp (List.all_eq_true.mp q_ft_in _ (List.mem_range.mpr h2)) _ (List.mem_range.mpr h3))
      rw [h5] at hov
      obtain ⟨hn, hfit⟩ := q_okv_fit h7 hov
      refine q_rput hx hb hts hown hK hcell.1 hS hcell.2 h2 h3 (q_gd_in h4) (fun hf => ?_) hn hfit hlen hdg (fun H1 locs1 hat hz ho hS1 => hW _ _ _ _ _ hl (hw.upd hz ho ⟨hat, hcell.2⟩) hS1 hcl hsl)
      rw [hf] at h6
      obtain ⟨h8, h9⟩ := q_and h6
      exact ⟨hnm (of_decide_eq_true h8), of_decide_eq_true h9⟩
    · cases hst
  case iaload =>
    dsimp only [q_okx] at hx0
    obtain ⟨h1, h2⟩ := q_and hx0
    obtain ⟨hdg, rfl⟩ := q_dec hdec h1
    dsimp only [q_G, q_K] at hst
    split at hst
    · obtain ⟨x, hg, hst2⟩ := q_ob_some hst
      clear hst
      have hst := hst2
      clear hst2
      obtain ⟨a, n, f, rfl, ha, hi, rfl⟩ := q_aldI_some hg
      cases hst
      rcases hw.2 a _ ha with ⟨h0, f1, e1, hX⟩ | ⟨h0, hat, -⟩
      · cases e1
        obtain ⟨scr, g1, g2, g3, g4, g5⟩ := hX
        exact W.iald (v := .int (f _)) hx hb g1 g2 g3 (by rw [g4]; exact hi) (g5 _ (Nat.not_le.mp fun q => hi (Or.inr q))) rfl rfl hdg (hW _ _ _ _ _ hl hw hS hcl hsl)
      · have h5 : ax.getD 0 0 = 1 := by
          rcases Bool.or_eq_true _ _ ▸ h2 with h2 | h2
          · exact Nat.eq_of_beq_eq_true h2
          · have := Nat.eq_of_beq_eq_true h2; dsimp only at h0; omega
        dsimp only at hat
        rw [h5] at hat
        exact va_iald (ws := [(a, .inl (cy 1, n, .inl f))]) hx hb hK (q_one hat) 0 1 rfl rfl hi hdg (hW _ _ _ _ _ hl hw hS hcl hsl)
    · cases hst
  case caload =>
    dsimp only [q_okx] at hx0
    obtain ⟨hdg, rfl⟩ := q_dec hdec hx0
    dsimp only [q_G, q_K] at hst
    split at hst
    · obtain ⟨x, hg, hst2⟩ := q_ob_some hst
      clear hst
      have hst := hst2
      clear hst2
      obtain ⟨a, n, f, rfl, ha, hi, rfl⟩ := q_aldI_some hg
      cases hst
      rcases hw.2 a _ ha with ⟨h0, -⟩ | ⟨h0, hat, -⟩
      · cases h0
      · exact va_cald (ws := [(a, .inl (cy 0, n, .inl f))]) hx hb hK (q_one hat) 0 0 rfl rfl hi hdg (hW _ _ _ _ _ hl hw hS hcl hsl)
    · cases hst
  case baload =>
    dsimp only [q_okx] at hx0
    obtain ⟨hdg, rfl⟩ := q_dec hdec hx0
    dsimp only [q_G, q_K] at hst
    split at hst
    · obtain ⟨x, hg, hst2⟩ := q_ob_some hst
      clear hst
      have hst := hst2
      clear hst2
      obtain ⟨a, n, f, rfl, ha, hi, rfl⟩ := q_aldI_some hg
      cases hst
      rcases hw.2 a _ ha with ⟨h0, -⟩ | ⟨h0, hat, -⟩
      · cases h0
      · exact va_zald (ws := [(a, .inl (cy 3, n, .inl f))]) hx hb hK (q_one hat) 0 3 rfl rfl hi hdg (hW _ _ _ _ _ hl hw hS hcl hsl)
    · cases hst
  case laload =>
    dsimp only [q_okx] at hx0
    obtain ⟨hdg, rfl⟩ := q_dec hdec hx0
    dsimp only [q_G, q_K] at hst
    split at hst
    · obtain ⟨x, hg, hst2⟩ := q_ob_some hst
      clear hst
      have hst := hst2
      clear hst2
      obtain ⟨a, n, f, rfl, ha, hi, rfl⟩ := q_aldL_some hg
      cases hst
      rcases hw.2 a _ ha with ⟨h0, -⟩ | ⟨h0, hat, -⟩
      · cases h0
      · exact va_lald (ws := [(a, .inl (cy 2, n, .inr (.inl f)))]) hx hb hK (q_one hat) 0 2 rfl rfl hi hdg (hW _ _ _ _ _ hl hw hS hcl hsl)
    · cases hst
  case aaload =>
    dsimp only [q_okx] at hx0
    obtain ⟨hdg, rfl⟩ := q_dec hdec hx0
    dsimp only [q_G, q_K] at hst
    split at hst
    · obtain ⟨x, hg, hst2⟩ := q_ob_some hst
      clear hst
      have hst := hst2
      clear hst2
      obtain ⟨a, n, f, rfl, ha, hi, hf⟩ := q_aldR_some hg
      cases hst
      rcases hw.2 a _ ha with ⟨h0, -⟩ | ⟨h0, hat, -⟩
      · cases h0
      · refine va_aldq (ws := [(a, .inl (cy 4, n, .inr (.inr (.inr (.inr f)))))]) hx hb hK (q_one hat) 0 4 rfl rfl hi hdg ?_
        rw [hf]
        exact (hW _ _ _ _ _ hl hw hS hcl hsl)
    · cases hst
  case iastore =>
    dsimp only [q_okx] at hx0
    obtain ⟨hdg, rfl⟩ := q_dec hdec hx0
    dsimp only [q_G, q_K] at hst
    split at hst
    · obtain ⟨s1, hg, hst2⟩ := q_ob_some hst
      clear hst
      have hst := hst2
      clear hst2
      obtain ⟨a, n, f, rfl, ha, hi, rfl⟩ := q_astI_some hg
      cases hst
      rcases hw.2 a _ ha with ⟨h0, -⟩ | ⟨h0, hat, hla⟩
      · cases h0
      · exact q_riast hx hb hK hat hS hla hi hdg (fun H1 locs1 hat1 hz ho hS1 => hW _ _ _ _ _ hl (hw.upd hz ho (Or.inr ⟨h0, hat1, hla⟩)) hS1 hcl hsl)
    · cases hst
  case castore =>
    dsimp only [q_okx] at hx0
    obtain ⟨hdg, rfl⟩ := q_dec hdec hx0
    dsimp only [q_G, q_K] at hst
    split at hst
    · obtain ⟨s1, hg, hst2⟩ := q_ob_some hst
      clear hst
      have hst := hst2
      clear hst2
      obtain ⟨a, n, f, rfl, ha, hi, rfl⟩ := q_astI_some hg
      cases hst
      rcases hw.2 a _ ha with ⟨h0, -⟩ | ⟨h0, hat, hla⟩
      · cases h0
      · exact q_rcast hx hb hK hat hS hla hi hdg (fun H1 locs1 hat1 hz ho hS1 => hW _ _ _ _ _ hl (hw.upd hz ho (Or.inr ⟨h0, hat1, hla⟩)) hS1 hcl hsl)
    · cases hst
  case bastore =>
    dsimp only [q_okx] at hx0
    obtain ⟨hdg, rfl⟩ := q_dec hdec hx0
    dsimp only [q_G, q_K] at hst
    split at hst
    · obtain ⟨s1, hg, hst2⟩ := q_ob_some hst
      clear hst
      have hst := hst2
      clear hst2
      obtain ⟨a, n, f, rfl, ha, hi, rfl⟩ := q_astI_some hg
      cases hst
      rcases hw.2 a _ ha with ⟨h0, -⟩ | ⟨h0, hat, hla⟩
      · cases h0
      · exact q_rzast hx hb hK hat hS hla hi hdg (fun H1 locs1 hat1 hz ho hS1 => hW _ _ _ _ _ hl (hw.upd hz ho (Or.inr ⟨h0, hat1, hla⟩)) hS1 hcl hsl)
    · cases hst
  case lastore =>
    dsimp only [q_okx] at hx0
    obtain ⟨hdg, rfl⟩ := q_dec hdec hx0
    dsimp only [q_G, q_K] at hst
    split at hst
    · obtain ⟨s1, hg, hst2⟩ := q_ob_some hst
      clear hst
      have hst := hst2
      clear hst2
      obtain ⟨a, n, f, rfl, ha, hi, rfl⟩ := q_astL_some hg
      cases hst
      rcases hw.2 a _ ha with ⟨h0, -⟩ | ⟨h0, hat, hla⟩
      · cases h0
      · exact q_rlast hx hb hK hat hS hla hi hdg (fun H1 locs1 hat1 hz ho hS1 => hW _ _ _ _ _ hl (hw.upd hz ho (Or.inr ⟨h0, hat1, hla⟩)) hS1 hcl hsl)
    · cases hst
  case aastore =>
    dsimp only [q_okx] at hx0
    obtain ⟨hdg, rfl⟩ := q_dec hdec hx0
    dsimp only [q_G, q_K] at hst
    split at hst
    · obtain ⟨s1, hg, hst2⟩ := q_ob_some hst
      clear hst
      have hst := hst2
      clear hst2
      obtain ⟨a, n, f, vs, rfl, ha, hi, hv, rfl⟩ := q_astR_some hg
      cases hst
      rcases hw.2 a _ ha with ⟨h0, -⟩ | ⟨h0, hat, hla⟩
      · cases h0
      · exact q_raast hx hb hK hat hS hla (hw.2 _ _ hv).1 hi hdg (fun H1 locs1 hat1 hz ho hS1 => hW _ _ _ _ _ hl (hw.upd hz ho (Or.inr ⟨h0, hat1, hla⟩)) hS1 hcl hsl)
    · cases hst
  case arraylength =>
    dsimp only [q_okx] at hx0
    obtain ⟨hdg, rfl⟩ := q_dec hdec hx0
    dsimp only [q_G, q_K] at hst
    split at hst
    · obtain ⟨x, hg, hst2⟩ := q_ob_some hst
      clear hst
      have hst := hst2
      clear hst2
      obtain ⟨a, y, rfl, ha, rfl⟩ := q_alen_some hg
      cases hst
      rcases hw.2 a _ ha with ⟨h0, f1, e1, hX⟩ | ⟨h0, hat, -⟩
      · obtain ⟨scr, g1, g2, g3, g4, g5⟩ := hX
        exact W.alen (n := Int32.ofNat y.1) hx hb g1 g2 (by rw [g4] <;> rfl) rfl rfl hdg (hW _ _ _ _ _ hl hw hS hcl hsl)
      · dsimp only at h0 hat
        have ht : (q_tys cy)[ax.getD 0 0]? = some (cy (ax.getD 0 0), q_akt (ax.getD 0 0)) := by
          generalize ax.getD 0 0 = i at h0
          match i, h0 with
          | 0, _ => rfl
          | 1, _ => rfl
          | 2, _ => rfl
          | 3, _ => rfl
          | 4, _ => rfl
        exact va_alen (ws := [(a, .inl (cy (ax.getD 0 0), y))]) hx hb hK (q_one hat) 0 (ax.getD 0 0) rfl ht rfl hdg (hW _ _ _ _ _ hl hw hS hcl hsl)
    · cases hst
  case new i =>
    dsimp only [q_okx] at hx0
    obtain ⟨hx0, h6⟩ := q_and hx0
    obtain ⟨hx0, h5⟩ := q_and hx0
    obtain ⟨hx0, h4⟩ := q_and hx0
    obtain ⟨hx0, h3⟩ := q_and hx0
    obtain ⟨h1, h2⟩ := q_and hx0
    obtain ⟨hdg, rfl⟩ := q_dec hdec h1
    have h2 := Nat.blt_eq.mp h2
    have h3 := Nat.eq_of_beq_eq_true h3
    dsimp only [q_G, q_K] at hst
    cases hst
    have e1 : (q_new σ (.inl (ax.getD 0 0, q_dfl (ax.getD 0 0))) (ax.getD 1 0)).2.1 = σ.2.1 + 1 := rfl
    have e2 : (q_new σ (.inl (ax.getD 0 0, q_dfl (ax.getD 0 0))) (ax.getD 1 0)).2.2 = σ.2.2 + ax.getD 1 0 := rfl
    refine q_rnew hx hb hts hown hK hS h2 (q_gd_in h4) (q_gd_in h5) (q_gd_in h6) (by omega) (by omega) hdg (fun H1 hat hz ho hS1 => ?_)
    rw [← hw.1] at hW
    exact hW _ _ _ _ _ hl (hw.new hz ho ⟨hat, Nat.le_trans hlo hS.1⟩) hS1 (by omega) (by omega)
  case newarray t =>
    dsimp only [q_okx] at hx0
    obtain ⟨hx0, h4⟩ := q_and hx0
    obtain ⟨hx0, h3⟩ := q_and hx0
    obtain ⟨h1, h2⟩ := q_and hx0
    obtain ⟨hdg, rfl⟩ := q_dec hdec h1
    have h2 := Nat.blt_eq.mp h2
    have h3 := of_decide_eq_true h3
    dsimp only [q_G, q_K] at hst
    split at hst
    · obtain ⟨s1, hg, hst2⟩ := q_ob_some hst
      clear hst
      have hst := hst2
      clear hst2
      obtain ⟨hn, hbig, rfl⟩ := q_newa_some hg
      cases hst
      rename_i n r
      have e1 : (q_new σ (.inr (ax.getD 0 0, q_zero (ax.getD 0 0) n.toNatClampNeg)) n.toNatClampNeg).2.1 = σ.2.1 + 1 := rfl
      have e2 : (q_new σ (.inr (ax.getD 0 0, q_zero (ax.getD 0 0) n.toNatClampNeg)) n.toNatClampNeg).2.2 = σ.2.2 + n.toNatClampNeg := rfl
      refine q_rnewa hx hb h2 h3 hts (q_gd_in h4) hK hS hn hbig (by omega) (by omega) hdg (fun H1 hat hz ho hS1 => ?_)
      rw [← hw.1] at hW
      exact hW _ _ _ _ _ hl (hw.new hz ho (Or.inr ⟨by show ax.getD 0 0 < 5; omega, hat, Nat.le_trans hlo hS.1⟩)) hS1 (by omega) (by omega)
    · cases hst
  case anewarray i =>
    dsimp only [q_okx] at hx0
    obtain ⟨h1, h4⟩ := q_and hx0
    obtain ⟨hdg, rfl⟩ := q_dec hdec h1
    dsimp only [q_G, q_K] at hst
    split at hst
    · obtain ⟨s1, hg, hst2⟩ := q_ob_some hst
      clear hst
      have hst := hst2
      clear hst2
      obtain ⟨hn, hbig, rfl⟩ := q_newa_some hg
      cases hst
      rename_i n r
      have e1 : (q_new σ (.inr (4, q_zero (4) n.toNatClampNeg)) n.toNatClampNeg).2.1 = σ.2.1 + 1 := rfl
      have e2 : (q_new σ (.inr (4, q_zero (4) n.toNatClampNeg)) n.toNatClampNeg).2.2 = σ.2.2 + n.toNatClampNeg := rfl
      refine q_rnewq hx hb hts hown (q_gd_in h4) hKK.2.2 hK hS hn hbig (by omega) (by omega) hdg (fun H1 hat hz ho hS1 => ?_)
      rw [← hw.1] at hW
      exact hW _ _ _ _ _ hl (hw.new hz ho (Or.inr ⟨Nat.lt_succ_self 4, hat, Nat.le_trans hlo hS.1⟩)) hS1 (by omega) (by omega)
    · cases hst
  case invokevirtual i =>
    dsimp only [q_okx] at hx0
    dsimp only [q_G] at hst
    obtain ⟨g1, g2, g3, v, σ1, hc, ht⟩ := q_inv_some hst
    cases ht
    obtain ⟨hom, hM, hle⟩ := HM _ g1 _ _ _ _ hc (by have := hS.1; have := hw.1; omega)
    unfold q_okc at hx0
    rcases Bool.or_eq_true _ _ ▸ hx0 with hx0 | hx0
    · rw [Nat.blt_eq.mpr g1] at hx0
      cases hx0
    obtain ⟨hx0, h4⟩ := q_and hx0
    obtain ⟨hx0, h3⟩ := q_and hx0
    obtain ⟨h1, h2⟩ := q_and hx0
    obtain ⟨hdg, rfl⟩ := q_dec hdec h1
    have h2 := Nat.eq_of_beq_eq_true h2
    have hlk : Cond.methodLink M.2.1.1 i (q_ms (ax.getD 0 0)).1.1 ∈ q_WS ∨ Cond.methodLinkNest M.2.1.1 i (q_ms (ax.getD 0 0)).1.1 "PlushFlocks" ∈ q_nest := by
      split at h4
      · exact Or.inl (q_gd_in h4)
      · exact Or.inr (List.mem_of_getElem? (of_decide_eq_true h4))
    have hsp : st = (st.take (ax.getD 1 0)).reverse.reverse ++ st.drop (ax.getD 1 0) := by simp
    rw [hsp]
    exact q_callW (z0 := z0) (w0 := w0) C1 g1 hom h2 hM hc hle hlk hdg (by decide) hsz hw hS hcl hsl hrm g3 (fun H1 locs1 c1 s1 a1 a2 a3 a4 => hW _ _ _ _ _ hl a1 a2 a3 a4)
  case invokestatic i =>
    dsimp only [q_okx] at hx0
    dsimp only [q_G] at hst
    cases h997 : Nat.beq (ax.getD 0 0) 997 with
    | true =>
      rw [h997] at hst hx0
      dsimp only [q_bt, q_K] at hst hx0
      obtain ⟨h1, h2⟩ := q_and hx0
      obtain ⟨hdg, rfl⟩ := q_dec hdec h1
      split at hst
      · obtain ⟨g3, hst⟩ := q_bt_some hst
        cases hst
        have g3 := q_cats (Nat.le_of_ble_eq_true g3)
        refine va_mmin hx hb (hml.trans hsz.symm) hown (hts _ (q_gd_in h2)) (hts _ (q_gd_in q_mw.2.1.1)) (hts _ (q_gd_in q_mw.1)) (hts _ (q_gd_in q_mw.2.1.2)) (by omega) (by omega) (by omega) (by omega) hdg (hW _ _ _ _ _ hl hw hS hcl hsl)
      · cases hst
    | false =>
      rw [h997] at hst hx0
      dsimp only [q_bt] at hst hx0
      cases h996 : Nat.beq (ax.getD 0 0) 996 with
      | true =>
        rw [h996] at hst hx0
        dsimp only [q_K] at hst hx0
        obtain ⟨h1, h2⟩ := q_and hx0
        obtain ⟨hdg, rfl⟩ := q_dec hdec h1
        split at hst
        · obtain ⟨g3, hst⟩ := q_bt_some hst
          cases hst
          have g3 := q_cats (Nat.le_of_ble_eq_true g3)
          refine va_mmax hx hb (hml.trans hsz.symm) hown (hts _ (q_gd_in h2)) (hts _ (q_gd_in q_mw.2.2.1)) (hts _ (q_gd_in q_mw.1)) (hts _ (q_gd_in q_mw.2.2.2)) (by omega) (by omega) (by omega) (by omega) hdg (hW _ _ _ _ _ hl hw hS hcl hsl)
        · cases hst
      | false =>
        rw [h996] at hst hx0
        dsimp only at hst hx0
        obtain ⟨g1, g2, g3, v, σ1, hc, ht⟩ := q_inv_some hst
        cases ht
        obtain ⟨hom, hM, hle⟩ := HM _ g1 _ _ _ _ hc (by have := hS.1; have := hw.1; omega)
        unfold q_okc at hx0
        rcases Bool.or_eq_true _ _ ▸ hx0 with hx0 | hx0
        · rw [Nat.blt_eq.mpr g1] at hx0
          cases hx0
        obtain ⟨hx0, h4⟩ := q_and hx0
        obtain ⟨hx0, h3⟩ := q_and hx0
        obtain ⟨h1, h2⟩ := q_and hx0
        obtain ⟨hdg, rfl⟩ := q_dec hdec h1
        have h2 := Nat.eq_of_beq_eq_true h2
        have hlk : Cond.methodLink M.2.1.1 i (q_ms (ax.getD 0 0)).1.1 ∈ q_WS ∨ Cond.methodLinkNest M.2.1.1 i (q_ms (ax.getD 0 0)).1.1 "PlushFlocks" ∈ q_nest := by
          split at h4
          · exact Or.inl (q_gd_in h4)
          · exact Or.inr (List.mem_of_getElem? (of_decide_eq_true h4))
        have hsp : st = (st.take (ax.getD 1 0)).reverse.reverse ++ st.drop (ax.getD 1 0) := by simp
        rw [hsp]
        exact q_callW (z0 := z0) (w0 := w0) C1 g1 hom h2 hM hc hle hlk hdg (by decide) hsz hw hS hcl hsl hrm g3 (fun H1 locs1 c1 s1 a1 a2 a3 a4 => hW _ _ _ _ _ hl a1 a2 a3 a4)
  case invokespecial i =>
    dsimp only [q_okx] at hx0
    dsimp only [q_G] at hst
    cases h999 : Nat.beq (ax.getD 0 0) 999 with
    | true =>
      rw [h999] at hst hx0
      dsimp only [q_bt, q_K] at hst hx0
      obtain ⟨h1, h2⟩ := q_and hx0
      obtain ⟨hdg, rfl⟩ := q_dec hdec h1
      split at hst
      · next a r =>
        obtain ⟨g3, hst⟩ := q_bt_some hst
        cases hst
        have g3 := q_cats (Nat.le_of_ble_eq_true g3)
        refine W.objInit hx hb hown (hts _ (q_gd_in h2)) (hts _ (q_gd_in q_objw.1)) (hts _ (q_gd_in q_objw.2)) (g := F0 m pc ls (.ref a :: _)) rfl (hsz.trans hml.symm) rfl hdg (by omega) (by show 2 * 0 + _ + 12 ≤ _; omega) (hW _ _ _ _ _ hl hw hS hcl hsl)
      · cases hst
    | false =>
      rw [h999] at hst hx0
      dsimp only [q_bt] at hst hx0
      obtain ⟨g1, g2, g3, v, σ1, hc, ht⟩ := q_inv_some hst
      cases ht
      obtain ⟨hom, hM, hle⟩ := HM _ g1 _ _ _ _ hc (by have := hS.1; have := hw.1; omega)
      unfold q_okc at hx0
      rcases Bool.or_eq_true _ _ ▸ hx0 with hx0 | hx0
      · rw [Nat.blt_eq.mpr g1] at hx0
        cases hx0
      obtain ⟨hx0, h4⟩ := q_and hx0
      obtain ⟨hx0, h3⟩ := q_and hx0
      obtain ⟨h1, h2⟩ := q_and hx0
      obtain ⟨hdg, rfl⟩ := q_dec hdec h1
      have h2 := Nat.eq_of_beq_eq_true h2
      have hlk : Cond.methodLink M.2.1.1 i (q_ms (ax.getD 0 0)).1.1 ∈ q_WS ∨ Cond.methodLinkNest M.2.1.1 i (q_ms (ax.getD 0 0)).1.1 "PlushFlocks" ∈ q_nest := by
        split at h4
        · exact Or.inl (q_gd_in h4)
        · exact Or.inr (List.mem_of_getElem? (of_decide_eq_true h4))
      have hsp : st = (st.take (ax.getD 1 0)).reverse.reverse ++ st.drop (ax.getD 1 0) := by simp
      rw [hsp]
      exact q_callW (z0 := z0) (w0 := w0) C1 g1 hom h2 hM hc hle hlk hdg (by decide) hsz hw hS hcl hsl hrm g3 (fun H1 locs1 c1 s1 a1 a2 a3 a4 => hW _ _ _ _ _ hl a1 a2 a3 a4)
  case ireturn =>
    dsimp only [q_G] at hst
    revert hst
    split <;> intro hst <;> first | (cases hst; done) | (obtain ⟨_, hst⟩ := q_bt_some hst; cases hst; done)
  case lreturn =>
    dsimp only [q_G] at hst
    revert hst
    split <;> intro hst <;> first | (cases hst; done) | (obtain ⟨_, hst⟩ := q_bt_some hst; cases hst; done)
  case areturn =>
    dsimp only [q_G] at hst
    revert hst
    split <;> intro hst <;> first | (cases hst; done) | (obtain ⟨_, hst⟩ := q_bt_some hst; cases hst; done)
  case return_ =>
    dsimp only [q_G] at hst
    revert hst
    split <;> intro hst <;> first | (cases hst; done) | (obtain ⟨_, hst⟩ := q_bt_some hst; cases hst; done)
  all_goals (cases hst)
end QS
theorem q_bt_or {α : Type} {b : Bool} {x y : Option α} {r : α} (h : q_bt b x y = some r) : x = some r ∨ y = some r := by
  cases b with
  | false => exact Or.inr h
  | true => exact Or.inl h
def q_out (t : qR ⊕ (Nat × qL × List Value × qH)) : qH := match t with
  | .inl r => r.2
  | .inr s => s.2.2.2
theorem q_le_put {σ σ' : qH} {v x : Value} {ci j t : Nat} (h : q_put σ v ci j t x = some σ') : q_le σ σ' := by
  obtain ⟨a, fs, -, -, -, -, rfl⟩ := q_put_some h
  exact q_le_rfl
theorem q_le_astI {σ σ' : qH} {v : Value} {k : Nat} {i x : Int32} (h : q_astI σ v k i x = some σ') : q_le σ σ' := by
  obtain ⟨a, n, f, -, -, -, rfl⟩ := q_astI_some h
  exact q_le_rfl
theorem q_le_astL {σ σ' : qH} {v : Value} {i : Int32} {x : Int64} (h : q_astL σ v i x = some σ') : q_le σ σ' := by
  obtain ⟨a, n, f, -, -, -, rfl⟩ := q_astL_some h
  exact q_le_rfl
theorem q_le_astR {σ σ' : qH} {v : Value} {i : Int32} {x : Nat} (h : q_astR σ v i x = some σ') : q_le σ σ' := by
  obtain ⟨a, n, f, vs, -, -, -, -, rfl⟩ := q_astR_some h
  exact q_le_rfl
theorem q_le_new {σ : qH} {e : qE} {n : Nat} : q_le σ (q_new σ e n) := ⟨Nat.le_succ _, Nat.le_add_right _ _⟩
theorem q_le_newa {σ σ' : qH} {k : Nat} {n : Int32} (h : q_newa σ k n = some σ') : q_le σ σ' := by
  obtain ⟨-, -, rfl⟩ := q_newa_some h
  exact q_le_new
set_option maxHeartbeats 4000000 in
theorem q_step_le {k : Nat} {cd : List (Nat × qI)} (HM : ∀ j, j < k → ∀ As σ v σ1, q_call j As σ = some (v, σ1) → q_le σ σ1) {pc : Nat} {L0 : qL} {st : List Value} {σ : qH} {t : qR ⊕ (Nat × qL × List Value × qH)} (hst : q_step k cd q_call pc L0 st σ = some t) : q_le σ (q_out t) := by
  have hinv : ∀ {nx : Nat} {ax : List Nat} {L : qL} {st : List Value} {t : qR ⊕ (Nat × qL × List Value × qH)}, q_inv k q_call none q_K nx ax L st σ = some t → q_le σ (q_out t) := by
    intro nx ax L st t h
    obtain ⟨g1, -, -, v, σ1, hc, rfl⟩ := q_inv_some h
    exact HM _ g1 _ _ _ _ hc
  unfold q_step q_F at hst
  split at hst
  · cases hst
  next en hen =>
  obtain ⟨ins, nx, kp, ax, cv, sw⟩ := en
  dsimp only at hst
  generalize q_keep kp L0 = L at hst
  cases ins <;> dsimp only [q_G] at hst <;> (try (cases hst; done)) <;> (try (cases hst; exact q_le_rfl)) <;> (try exact hinv hst) <;> (try (cases hst; exact q_le_new)) <;>
    (try (obtain ⟨_, _, h2⟩ := q_ob_some hst; cases h2; exact q_le_rfl)) <;> (try (obtain ⟨_, h2⟩ := q_bt_some hst; cases h2; exact q_le_rfl)) <;>
    (repeat' split at hst) <;> (try (cases hst; done)) <;> (try (cases hst; exact q_le_rfl)) <;> (try (obtain ⟨_, _, h2⟩ := q_ob_some hst; cases h2; exact q_le_rfl)) <;> (try (obtain ⟨_, h2⟩ := q_bt_some hst; cases h2; exact q_le_rfl)) <;>
    (try (obtain ⟨_, h3, h2⟩ := q_ob_some hst; cases h2; first | exact q_le_put h3 | exact q_le_astI h3 | exact q_le_astL h3 | exact q_le_astR h3 | exact q_le_newa h3)) <;>
    (try (rw [q_sw_eq] at hst; cases hst; exact q_le_rfl))
  · obtain ⟨_, _, h2⟩ := q_ob_some hst
    cases h2
  all_goals (rcases q_bt_or hst with h | h)
  all_goals first | (cases h; done) | exact hinv h | (obtain ⟨_, h2⟩ := q_bt_some h; rw [← Option.some.inj h2]; exact q_le_rfl) | (rcases q_bt_or h with h | h <;> first | (cases h; done) | exact hinv h | (obtain ⟨_, h2⟩ := q_bt_some h; rw [← Option.some.inj h2]; exact q_le_rfl))
theorem q_it_le1 {k : Nat} {cd : List (Nat × qI)} (HM : ∀ j, j < k → ∀ As σ v σ1, q_call j As σ = some (v, σ1) → q_le σ σ1) : ∀ n pc L st σ r, q_it k cd q_call n pc L st σ = some r → q_le σ r.2 := by
  intro n
  induction n with
  | zero => intro pc L st σ r h; cases h
  | succ n ih =>
    intro pc L st σ r h
    unfold q_it at h
    rw [q_F_join] at h
    cases hs : q_step k cd q_call pc L st σ with
    | none => rw [hs] at h; cases h
    | some t =>
      rw [hs] at h
      have h1 := q_step_le HM hs
      cases t with
      | inl r0 => cases h; exact h1
      | inr s => exact h1.trans (ih _ _ _ _ _ h)
theorem q_le_all : ∀ k As σ v σ1, q_call k As σ = some (v, σ1) → q_le σ σ1 := by
  intro k
  induction k using Nat.strongRecOn with
  | _ k ih =>
    intro As σ v σ1 h
    obtain ⟨-, -, -, h⟩ := q_recvc h
    obtain ⟨n, h⟩ := (q_rn0_iff (v, σ1)).mp h
    exact q_it_le1 ih n _ _ _ _ _ h
section QT
variable {p : Program} {l : Launch} {e : Env} {R : Room} {s : State} {m : MethodId} {args : Array Value} {below : List Frame} {meth : Method} {c : Code} {H : Heap} {locs : List Loc} {cells slots : Nat} {Q : State → Prop}
variable {ls : Array Slot} {D : va_G} {cy : Nat → ClassId} {lo : Nat} {H0 : Heap}
theorem q_sound_W {k z0 w0 : Nat} {M : qM} (C0 : q_Cx p R s m args meth c k M D cy lo) (hok : M.2.2.2.all (q_ok k M) = true)
    (HM : ∀ j, j < k → ∀ As σ v σ1, q_call j As σ = some (v, σ1) → lo ≤ σ.2.1 → q_okm (q_ms j) = true ∧ q_Mt l D cy lo j As σ v σ1 ∧ q_le σ σ1) {r0 : qR}
    (HE : ∀ (pc : Nat) (L : qL) (st : List Value) (σ : qH), q_step k M.2.2.2 q_call pc L st σ = some (.inl r0) → q_Wk p l e R s m args below meth c Q M.1.2.2.1 D cy lo z0 w0 pc L st σ)
    (hrm : r0.2.2.1 ≤ z0 + R.cells ∧ r0.2.2.2 ≤ w0 + R.slots) : ∀ n pc L st σ, q_it k M.2.2.2 q_call n pc L st σ = some r0 → q_Wk p l e R s m args below meth c Q M.1.2.2.1 D cy lo z0 w0 pc L st σ := by
  intro n
  induction n with
  | zero => intro pc L st σ h; cases h
  | succ n ih =>
    intro pc L st σ h
    unfold q_it at h
    rw [q_F_join] at h
    cases hs : q_step k M.2.2.2 q_call pc L st σ with
    | none => rw [hs] at h; cases h
    | some t =>
      rw [hs] at h
      cases t with
      | inl r =>
        have : r = r0 := Option.some.inj h
        subst this
        exact HE _ _ _ _ hs
      | inr t =>
        obtain ⟨pc', L', st', σ'⟩ := t
        have hle := q_it_le1 (fun j _ => q_le_all j) n _ _ _ _ _ h
        exact q_step_W C0 hok HM hs ⟨Nat.le_trans hle.1 hrm.1, Nat.le_trans hle.2 hrm.2⟩ (ih _ _ _ _ h)
/-- a method's end -/
theorem q_end {k z0 w0 mc ms : Nat} {M : qM} (C0 : q_Cx p R s m args meth c k M D cy lo) (hok : M.2.2.2.all (q_ok k M) = true) (hr : meth.sig.returnType = M.1.2.2.2) (hlocks : meth.locks = false) {r0 : qR} (hmc : mc + z0 = r0.2.2.1) (hms : ms + w0 = r0.2.2.2) {pc : Nat} {L0 : qL} {st : List Value} {σ : qH} (hst : q_step k M.2.2.2 q_call pc L0 st σ = some (.inl r0)) :
    q_Wk p l e R s m args below meth c (MQ below (fun _ st oc t => oc = .returned r0.1 ∧ q_W D cy lo r0.2 t t.heap ∧ va_F (fun q => lo ≤ q) st t) args s mc ms (fun q => lo ≤ q)) M.1.2.2.1 D cy lo z0 w0 pc L0 st σ := by
  obtain ⟨hx, hb, hml, hown, hts, hKK, hlo, hnm, hfr, hloc⟩ := C0
  unfold q_step q_F at hst
  split at hst
  · cases hst
  next en hen =>
  have hoke := List.all_eq_true.mp hok _ (q_lookup_mem hen)
  obtain ⟨ins, nx, kp, ax, cv, sw⟩ := en
  obtain ⟨hd0, hx0⟩ := q_and hoke
  have hdec : decode M.1.2.1 pc = .ok (ins, nx - pc) := of_decide_eq_true hd0
  dsimp only at hst hx0
  intro H locs ls cells slots hl0 hw hS hcl hsl
  generalize q_keep kp L0 = L at hst
  have hinv : ∀ {nx : Nat} {ax : List Nat} {L : qL} {st : List Value}, q_inv k q_call none q_K nx ax L st σ = some (.inl r0) → False := by
    intro nx ax L st h
    obtain ⟨-, -, -, v, σ1, -, h⟩ := q_inv_some h
    cases h
  cases ins
  case ireturn =>
    dsimp only [q_okx] at hx0
    obtain ⟨h1, h2⟩ := q_and hx0
    obtain ⟨hdg, rfl⟩ := q_dec hdec h1
    dsimp only [q_G] at hst
    split at hst
    · obtain ⟨hov, hst⟩ := q_bt_some hst
      cases hst
      have e1 : cells = mc := by dsimp only at hmc; omega
      have e2 : slots = ms := by dsimp only at hms; omega
      subst e1; subst e2
      split at h2
      · next t ht =>
        obtain ⟨h3, h4⟩ := q_and h2
        rw [Nat.eq_of_beq_eq_true h3] at hov
        have h5 : q_tc t < 5 := by
          rcases Bool.or_eq_true _ _ ▸ h4 with h4 | h4
          · rcases Bool.or_eq_true _ _ ▸ h4 with h4 | h4
            · rw [of_decide_eq_true h4]; decide
            · rw [of_decide_eq_true h4]; decide
          · rw [of_decide_eq_true h4]; decide
        exact W.zret hx hb (hr.trans ht) (q_okv_fit h5 hov).1 (fun t ht hW => ⟨rfl, by rw [ht]; exact hw.moved hW.alike, hS.F ht⟩) hS.2.2 hdg hlocks
      · cases h2
    · cases hst
  case lreturn =>
    dsimp only [q_okx] at hx0
    obtain ⟨h1, h2⟩ := q_and hx0
    obtain ⟨hdg, rfl⟩ := q_dec hdec h1
    dsimp only [q_G] at hst
    split at hst
    · cases hst
      have e1 : cells = mc := by dsimp only at hmc; omega
      have e2 : slots = ms := by dsimp only at hms; omega
      subst e1; subst e2
      exact W.lret hx hb (hr.trans (of_decide_eq_true h2)) (fun t ht hW => ⟨rfl, by rw [ht]; exact hw.moved hW.alike, hS.F ht⟩) hS.2.2 hdg hlocks
    · cases hst
  case areturn =>
    dsimp only [q_okx] at hx0
    obtain ⟨h1, h2⟩ := q_and hx0
    obtain ⟨hdg, rfl⟩ := q_dec hdec h1
    dsimp only [q_G] at hst
    split at h2
    · next nm ht =>
      split at hst
      · cases hst
        have e1 : cells = mc := by dsimp only at hmc; omega
        have e2 : slots = ms := by dsimp only at hms; omega
        subst e1; subst e2
        exact W.aret hx hb (hr.trans ht) (Or.inl ⟨_, rfl⟩) (Or.inr ⟨_, rfl⟩) (fun t ht hW => ⟨rfl, by rw [ht]; exact hw.moved hW.alike, hS.F ht⟩) hS.2.2 hdg hlocks
      · cases hst
        have e1 : cells = mc := by dsimp only at hmc; omega
        have e2 : slots = ms := by dsimp only at hms; omega
        subst e1; subst e2
        exact W.aret hx hb (hr.trans ht) (Or.inl ⟨_, rfl⟩) (Or.inl rfl) (fun t ht hW => ⟨rfl, by rw [ht]; exact hw.moved hW.alike, hS.F ht⟩) hS.2.2 hdg hlocks
      · cases hst
    · cases h2
  case return_ =>
    dsimp only [q_okx] at hx0
    obtain ⟨h1, h2⟩ := q_and hx0
    obtain ⟨hdg, rfl⟩ := q_dec hdec h1
    dsimp only [q_G] at hst
    split at hst
    · cases hst
      have e1 : cells = mc := by dsimp only at hmc; omega
      have e2 : slots = ms := by dsimp only at hms; omega
      subst e1; subst e2
      exact W.vret hx hb (hr.trans (of_decide_eq_true h2)) (fun t ht hW => ⟨rfl, by rw [ht]; exact hw.moved hW.alike, hS.F ht⟩) hS.2.2 hdg hlocks
    · cases hst
  all_goals exfalso; dsimp only [q_G] at hst
  all_goals first
    | (cases hst; done)
    | exact hinv hst
    | (obtain ⟨_, _, h2⟩ := q_ob_some hst; cases h2; done)
    | ((repeat' split at hst) <;> first | (cases hst; done) | (obtain ⟨_, _, h2⟩ := q_ob_some hst; cases h2; done) | (rw [q_sw_eq] at hst; cases hst; done))
    | (cases h999 : Nat.beq (ax.getD 0 0) 999 with
      | true => rw [h999] at hst; dsimp only [q_bt] at hst; split at hst <;> first | (cases hst; done) | (obtain ⟨_, h2⟩ := q_bt_some hst; cases h2; done)
      | false => rw [h999] at hst; exact hinv hst)
    | (cases h997 : Nat.beq (ax.getD 0 0) 997 with
      | true => rw [h997] at hst; dsimp only [q_bt] at hst; split at hst <;> first | (cases hst; done) | (obtain ⟨_, h2⟩ := q_bt_some hst; cases h2; done)
      | false =>
        rw [h997] at hst
        dsimp only [q_bt] at hst
        cases h996 : Nat.beq (ax.getD 0 0) 996 with
        | true => rw [h996] at hst; dsimp only at hst; split at hst <;> first | (cases hst; done) | (obtain ⟨_, h2⟩ := q_bt_some hst; cases h2; done)
        | false => rw [h996] at hst; exact hinv hst)
end QT
theorem q_Met_of (l : Launch) {D : va_G} {cy : Nat → ClassId} {lo : Nat} {k : Nat} (hom : q_okm (q_ms k) = true) (hok : (q_ms k).2.2.2.all (q_ok k (q_ms k)) = true)
    (HM : ∀ j, j < k → ∀ As σ v σ1, q_call j As σ = some (v, σ1) → lo ≤ σ.2.1 → q_okm (q_ms j) = true ∧ q_Mt l D cy lo j As σ v σ1 ∧ q_le σ σ1) {As : List Value} {σ : qH} {v : Option Value} {σ1 : qH} (h : q_call k As σ = some (v, σ1)) (hlo : lo ≤ σ.2.1) : q_Mt l D cy lo k As σ v σ1 := by
  have hle := q_le_all k _ _ _ _ h
  have hom0 := hom
  unfold q_okm at hom
  obtain ⟨hom, -⟩ := q_and hom
  obtain ⟨hom, -⟩ := q_and hom
  obtain ⟨hom, -⟩ := q_and hom
  obtain ⟨hom, h4⟩ := q_and hom
  obtain ⟨hom, h3⟩ := q_and hom
  have h4 := of_decide_eq_true h4
  obtain ⟨-, -, hlen, hrun⟩ := q_recvc h
  obtain ⟨n, hit⟩ := (q_rn0_iff (v, σ1)).mp hrun
  unfold q_Mt
  refine Met.ofW (cc := (q_ms k).1.2.1) (maxL := (q_ms k).1.2.2.1) (ret := (q_ms k).1.2.2.2) h3 rfl ?_
  intro p e s m args below meth c s₁ B hml hv
  obtain ⟨rfl, hw, hKK⟩ := hv
  have hts0 := atoms_spec (ws := Cond.code (q_ms k).1.1 (q_ms k).1.2.1 (q_ms k).1.2.2.1 (q_ms k).1.2.2.2 :: q_WS) B.pre
  have hown : s.vm.findClass (q_ms k).2.1.1 = some m.cls := by rw [h4]; exact findClass_of_methodNamed B.named
  have hnm : meth.name = (q_ms k).1.1.name := (name_of_methodNamed B.named B.method).1
  have hl := lv_entry As hlen
  have C0 : q_Cx p (headSpec (Cond.code (q_ms k).1.1 (q_ms k).1.2.1 (q_ms k).1.2.2.1 (q_ms k).1.2.2.2 :: q_WS) (q_rm k (σ1.2.1 - σ.2.1) (σ1.2.2 - σ.2.2))).room s m As.toArray meth c k (q_ms k) D cy lo :=
    ⟨B.exec, B.bytes, hml, hown, fun w hw => hts0 w (List.mem_cons_of_mem _ hw), hKK, by rw [hw.1]; exact hlo, fun e => hnm.trans e, Nat.le_refl _, Nat.le_refl _⟩
  rw [lg_entry_eq]
  have hle1 := hle.1
  have hle2 := hle.2
  exact q_sound_W (l := l) (z0 := σ.2.1) (w0 := σ.2.2) (r0 := (v, σ1)) C0 hok HM
    (fun pc L st σ' hst => q_end (mc := σ1.2.1 - σ.2.1) (ms := σ1.2.2 - σ.2.2) C0 hok B.returns B.notSynchronized (by dsimp only; omega) (by dsimp only; omega) hst)
    ⟨by show σ1.2.1 ≤ σ.2.1 + (σ1.2.1 - σ.2.1); omega, by show σ1.2.2 ≤ σ.2.2 + (σ1.2.2 - σ.2.2); omega⟩ n _ _ _ _ hit s.heap [] _ 0 0 hl hw va_S.rf (by omega) (by omega)
end
section
-- 0 X3_init
set_option maxRecDepth 100000 in
theorem e_0_0 (x0 : Nat) (σ : qH) : q_run 0 0 [(0, .ref x0)] [] σ = q_ob (q_put σ (.ref x0) 3 0 0 (.int (nI 0))) none fun h1 => q_ob (q_put h1 (.ref x0) 3 1 0 (.int (nI 0))) none fun h2 => q_ob (q_put h2 (.ref x0) 3 2 0 (.int (nI 20))) none fun h3 => q_ob (q_put h3 (.ref x0) 3 3 4 (.int (nI 0))) none fun h4 => q_ob (q_put h4 (.ref x0) 3 4 1 (.long (lN 0))) none fun h5 => q_ob (q_put h5 (.ref x0) 3 5 1 (.long (lN 0))) none fun h6 => q_ob (q_put h6 (.ref x0) 3 6 1 (.long (lN 0))) none fun h7 => q_ob (q_put h7 (.ref x0) 3 7 0 (.int (nI 0))) none fun h8 => q_ob (q_put h8 (.ref x0) 3 8 1 (.long (lN 0))) none fun h9 => q_ob (q_put h9 (.ref x0) 3 9 1 (.long (lN 0))) none fun h10 => some (none, h10) := (q_run_un 0 [] 35 ..).trans rfl
-- 1 X0_init
set_option maxRecDepth 100000 in
theorem e_1_0 (x0 : Nat) (σ : qH) : q_run 1 0 [(0, .ref x0)] [] σ = q_ob (q_put σ (.ref x0) 0 0 0 (.int (nI 0))) none fun h1 => q_ob (q_put h1 (.ref x0) 0 1 1 (.long (lN 0))) none fun h2 => q_ob (q_put h2 (.ref x0) 0 2 1 (.long (lN 0))) none fun h3 => q_ob (q_put h3 (.ref x0) 0 3 1 (.long (lN 0))) none fun h4 => q_ob (q_put h4 (.ref x0) 0 4 0 (.int (nI 0))) none fun h5 => q_ob (q_put h5 (.ref x0) 0 5 0 (.int (nI 0))) none fun h6 => some (none, h6) := (q_run_un 1 [] 23 ..).trans rfl
-- 2 X2_init
set_option maxRecDepth 100000 in
theorem e_2_0 (x0 : Nat) (σ : qH) : q_run 2 0 [(0, .ref x0)] [] σ = q_ob (q_newa σ 4 (nI 10)) none fun h1 => q_ob (q_put h1 (.ref x0) 2 0 2 (.ref σ.2.1)) none fun h2 => q_ob (q_put h2 (.ref x0) 2 1 0 (.int (nI 0))) none fun h3 => q_ob (q_put h3 (.ref x0) 2 2 0 (.int (nI 0))) none fun h4 => q_run 2 25 [(0, .ref x0), (1, .int (nI 0))] [] h4 := (q_run_un 2 [25] 31 ..).trans rfl
set_option maxRecDepth 100000 in
theorem e_2_25 (x0 : Nat) (x1 : Int32) (σ : qH) : q_run 2 25 [(0, .ref x0), (1, .int x1)] [] σ = q_ob (q_getR σ (.ref x0) 2 0) none fun v1 => q_ob (q_alen σ (.ref v1) 4) none fun v2 => if v2 ≤ x1 then some (none, σ) else q_ob (q_getR σ (.ref x0) 2 0) none fun v3 => q_ob (q_cV (q_call 1 [.ref σ.2.1] (q_new σ (.inl (0, q_dfl 0)) 6))) none fun h4 => q_ob (q_astR h4 (.ref v3) x1 σ.2.1) none fun h5 => q_run 2 25 [(0, .ref x0), (1, .int (x1 + (nI 1)))] [] h5 := (q_run_un 2 [25] 31 ..).trans rfl
-- 3 X1_init
set_option maxRecDepth 100000 in
theorem e_3_0 (x0 : Nat) (σ : qH) : q_run 3 0 [(0, .ref x0)] [] σ = q_ob (q_put σ (.ref x0) 1 0 1 (.long (lN 0))) none fun h1 => q_ob (q_put h1 (.ref x0) 1 1 1 (.long (lN 0))) none fun h2 => q_ob (q_put h2 (.ref x0) 1 2 1 (.long (lN 0))) none fun h3 => q_ob (q_put h3 (.ref x0) 1 3 0 (.int (nI 0))) none fun h4 => q_ob (q_put h4 (.ref x0) 1 4 0 (.int (nI 0))) none fun h5 => q_ob (q_put h5 (.ref x0) 1 5 0 (.int (nI 0))) none fun h6 => q_ob (q_put h6 (.ref x0) 1 6 0 (.int (nI 0))) none fun h7 => some (none, h7) := (q_run_un 3 [] 26 ..).trans rfl
-- 4 X5_init
set_option maxRecDepth 100000 in
theorem e_4_0 (x0 : Nat) (σ : qH) : q_run 4 0 [(0, .ref x0)] [] σ = q_ob (q_newa σ 1 (nI 3125)) none fun h1 => q_ob (q_put h1 (.ref x0) 5 0 2 (.ref σ.2.1)) none fun h2 => q_ob (q_newa h2 2 (nI 512)) none fun h3 => q_ob (q_put h3 (.ref x0) 5 1 2 (.ref h2.2.1)) none fun h4 => q_ob (q_put h4 (.ref x0) 5 2 0 (.int (nI 0))) none fun h5 => q_ob (q_put h5 (.ref x0) 5 3 0 (.int (-9 : Int32))) none fun h6 => q_ob (q_put h6 (.ref x0) 5 4 0 (.int (-9 : Int32))) none fun h7 => some (none, h7) := (q_run_un 4 [] 22 ..).trans rfl
-- 5 X6_init
set_option maxRecDepth 100000 in
theorem e_5_0 (x0 : Nat) (σ : qH) : q_run 5 0 [(0, .ref x0)] [] σ = q_ob (q_newa σ 0 (nI 120)) none fun h1 => q_ob (q_put h1 (.ref x0) 6 0 2 (.ref σ.2.1)) none fun h2 => q_ob (q_put h2 (.ref x0) 6 1 0 (.int (nI 0))) none fun h3 => q_ob (q_cV (q_call 0 [.ref h3.2.1] (q_new h3 (.inl (3, q_dfl 3)) 10))) none fun h4 => q_ob (q_put h4 (.ref x0) 6 2 2 (.ref h3.2.1)) none fun h5 => q_ob (q_cV (q_call 1 [.ref h5.2.1] (q_new h5 (.inl (0, q_dfl 0)) 6))) none fun h6 => q_ob (q_put h6 (.ref x0) 6 3 2 (.ref h5.2.1)) none fun h7 => q_ob (q_cV (q_call 1 [.ref h7.2.1] (q_new h7 (.inl (0, q_dfl 0)) 6))) none fun h8 => q_ob (q_put h8 (.ref x0) 6 4 2 (.ref h7.2.1)) none fun h9 => q_ob (q_cV (q_call 2 [.ref h9.2.1] (q_new h9 (.inl (2, q_dfl 2)) 3))) none fun h10 => q_ob (q_put h10 (.ref x0) 6 5 2 (.ref h9.2.1)) none fun h11 => q_ob (q_newa h11 4 (nI 2)) none fun h12 => q_ob (q_put h12 (.ref x0) 6 6 2 (.ref h11.2.1)) none fun h13 => q_ob (q_put h13 (.ref x0) 6 7 0 (.int (nI 0))) none fun h14 => q_ob (q_cV (q_call 3 [.ref h14.2.1] (q_new h14 (.inl (1, q_dfl 1)) 7))) none fun h15 => q_ob (q_put h15 (.ref x0) 6 8 2 (.ref h14.2.1)) none fun h16 => q_ob (q_cV (q_call 4 [.ref h16.2.1] (q_new h16 (.inl (5, q_dfl 5)) 5))) none fun h17 => q_ob (q_put h17 (.ref x0) 6 9 2 (.ref h16.2.1)) none fun h18 => q_ob (q_put h18 (.ref x0) 6 10 1 (.long (lN 0))) none fun h19 => q_run 5 103 [(0, .ref x0), (1, .int (nI 0))] [] h19 := (q_run_un 5 [103] 68 ..).trans rfl
set_option maxRecDepth 100000 in
theorem e_5_103 (x0 : Nat) (x1 : Int32) (σ : qH) : q_run 5 103 [(0, .ref x0), (1, .int x1)] [] σ = q_ob (q_getR σ (.ref x0) 6 6) none fun v1 => q_ob (q_alen σ (.ref v1) 4) none fun v2 => if v2 ≤ x1 then some (none, σ) else q_ob (q_getR σ (.ref x0) 6 6) none fun v3 => q_ob (q_cV (q_call 1 [.ref σ.2.1] (q_new σ (.inl (0, q_dfl 0)) 6))) none fun h4 => q_ob (q_astR h4 (.ref v3) x1 σ.2.1) none fun h5 => q_run 5 103 [(0, .ref x0), (1, .int (x1 + (nI 1)))] [] h5 := (q_run_un 5 [103] 68 ..).trans rfl
-- 6 X7_letterAt
set_option maxRecDepth 100000 in
theorem e_6_0 (x0 : Nat) (x1 : Int32) (σ : qH) : q_run 6 0 [(0, .ref x0), (1, .int x1)] [] σ = q_ob (q_getI σ (.ref x0) 7 2) none fun v1 => if v1 ≤ x1 then some (some (.int (-1 : Int32)), σ) else q_ob (q_getR σ (.ref x0) 7 1) none fun v2 => q_ob (q_aldI σ (.ref v2) 1 x1) none fun v3 => some (some (.int v3), σ) := (q_run_un 6 [] 13 ..).trans rfl
-- 7 X7_isWord
set_option maxRecDepth 100000 in
theorem e_7_0 (x0 : Int32) (σ : qH) : q_run 7 0 [(0, .int x0)] [] σ = if x0 = (nI 114) then q_run 7 24 [] [] σ else if x0 = (nI 100) then q_run 7 24 [] [] σ else if x0 = (nI 102) then q_run 7 24 [] [] σ else if x0 = (nI 110) then q_run 7 24 [] [] σ else some (some (.int (nI 0)), σ) := (q_run_un 7 [24] 18 ..).trans rfl
set_option maxRecDepth 100000 in
theorem e_7_24  (σ : qH) : q_run 7 24 [] [] σ = some (some (.int (nI 1)), σ) := (q_run_un 7 [24] 18 ..).trans rfl
-- 8 X7_in
set_option maxRecDepth 100000 in
theorem e_8_0 (x0 : Int32) (x1 : Int32) (x2 : Int32) (σ : qH) : q_run 8 0 [(0, .int x0), (1, .int x1), (2, .int x2)] [] σ = if x0 < x1 then q_run 8 14 [] [] σ else if x2 < x0 then q_run 8 14 [] [] σ else some (some (.int (nI 1)), σ) := (q_run_un 8 [14] 12 ..).trans rfl
set_option maxRecDepth 100000 in
theorem e_8_14  (σ : qH) : q_run 8 14 [] [] σ = some (some (.int (nI 0)), σ) := (q_run_un 8 [14] 12 ..).trans rfl
-- 9 X7_isDigit
set_option maxRecDepth 100000 in
theorem e_9_0 (x0 : Int32) (σ : qH) : q_run 9 0 [(0, .int x0)] [] σ = q_ob (q_cI (q_call 8 [.int x0, .int (nI 48), .int (nI 57)] σ)) none fun p1 => q_bt (q_okv 4 (.int p1.1)) (some (some (.int p1.1), p1.2)) none := (q_run_un 9 [] 7 ..).trans rfl
-- 10 X7_token
set_option maxRecDepth 100000 in
theorem e_10_0 (x0 : Nat) (σ : qH) : q_run 10 0 [(0, .ref x0)] [] σ = q_ob (q_getI σ (.ref x0) 7 12) none fun v1 => q_ob (q_cI (q_call 6 [.ref x0, .int v1] σ)) none fun p2 => if p2.1 = (nI 32) then q_ob (q_getI p2.2 (.ref x0) 7 12) none fun v9 => q_ob (q_put p2.2 (.ref x0) 7 12 0 (.int (v9 + (nI 1)))) none fun h10 => q_run 10 0 [(0, .ref x0)] [] h10 else q_ob (q_getI p2.2 (.ref x0) 7 12) none fun v3 => q_ob (q_put p2.2 (.ref x0) 7 14 0 (.int v3)) none fun h4 => q_ob (q_getI h4 (.ref x0) 7 12) none fun v5 => q_ob (q_cI (q_call 6 [.ref x0, .int v5] h4)) none fun p6 => if nI 0 ≤ p6.1 then q_ob (q_cI (q_call 7 [.int p6.1] p6.2)) none fun p7 => if p7.1 = nI 0 then q_ob (q_cI (q_call 9 [.int p6.1] p7.2)) none fun p8 => if p8.1 = nI 0 then if p6.1 = (nI 59) then q_run 10 85 [(0, .ref x0), (1, .int p6.1)] [.int (nI 3), .ref x0] p8.2 else q_run 10 85 [(0, .ref x0), (1, .int p6.1)] [.int (nI 4), .ref x0] p8.2 else q_run 10 85 [(0, .ref x0), (1, .int p6.1)] [.int (nI 2), .ref x0] p8.2 else q_run 10 85 [(0, .ref x0), (1, .int p6.1)] [.int (nI 1), .ref x0] p7.2 else q_run 10 85 [(0, .ref x0), (1, .int p6.1)] [.int (nI 0), .ref x0] p6.2 := (q_run_un 10 [0, 85, 110, 130, 160, 186] 106 ..).trans rfl
set_option maxRecDepth 100000 in
theorem e_10_85 (x0 : Nat) (x1 : Int32) (s0 : Int32) (s1 : Nat) (σ : qH) : q_run 10 85 [(0, .ref x0), (1, .int x1)] [.int s0, .ref s1] σ = q_ob (q_put σ (.ref s1) 7 13 0 (.int s0)) none fun h1 => q_ob (q_put h1 (.ref x0) 7 15 0 (.int x1)) none fun h2 => q_ob (q_getI h2 (.ref x0) 7 12) none fun v3 => q_ob (q_getI h2 (.ref x0) 7 13) none fun v4 => if v4 = nI 0 then q_run 10 110 [(0, .ref x0), (1, .int x1)] [.int (nI 0), .int v3, .ref x0] h2 else q_run 10 110 [(0, .ref x0), (1, .int x1)] [.int (nI 1), .int v3, .ref x0] h2 := (q_run_un 10 [0, 85, 110, 130, 160, 186] 106 ..).trans rfl
set_option maxRecDepth 100000 in
theorem e_10_110 (x0 : Nat) (x1 : Int32) (s0 : Int32) (s1 : Int32) (s2 : Nat) (σ : qH) : q_run 10 110 [(0, .ref x0), (1, .int x1)] [.int s0, .int s1, .ref s2] σ = q_ob (q_put σ (.ref s2) 7 12 0 (.int (s1 + s0))) none fun h1 => q_ob (q_getI h1 (.ref x0) 7 13) none fun v2 => if v2 = (nI 2) then q_ob (q_put h1 (.ref x0) 7 15 0 (.int (x1 - (nI 48)))) none fun h3 => q_run 10 130 [(0, .ref x0), (1, .int x1)] [] h3 else some (none, h1) := (q_run_un 10 [0, 85, 110, 130, 160, 186] 106 ..).trans rfl
set_option maxRecDepth 100000 in
theorem e_10_130 (x0 : Nat) (x1 : Int32) (σ : qH) : q_run 10 130 [(0, .ref x0), (1, .int x1)] [] σ = q_ob (q_getI σ (.ref x0) 7 12) none fun v1 => q_ob (q_cI (q_call 6 [.ref x0, .int v1] σ)) none fun p2 => q_ob (q_cI (q_call 9 [.int p2.1] p2.2)) none fun p3 => if p3.1 = nI 0 then some (none, p3.2) else if x1 = (nI 48) then q_run 10 160 [(0, .ref x0), (1, .int x1)] [.ref x0] p3.2 else q_ob (q_getI p3.2 (.ref x0) 7 15) none fun v4 => if v4 ≤ (nI 99) then q_ob (q_getI p3.2 (.ref x0) 7 15) none fun v5 => q_ob (q_getR p3.2 (.ref x0) 7 1) none fun v6 => q_ob (q_getI p3.2 (.ref x0) 7 12) none fun v7 => q_ob (q_aldI p3.2 (.ref v6) 1 v7) none fun v8 => q_run 10 186 [(0, .ref x0), (1, .int x1)] [.int ((((nI 10) * v5) + v8) - (nI 48)), .ref x0] p3.2 else q_run 10 160 [(0, .ref x0), (1, .int x1)] [.ref x0] p3.2 := (q_run_un 10 [0, 85, 110, 130, 160, 186] 106 ..).trans rfl
set_option maxRecDepth 100000 in
theorem e_10_160 (x0 : Nat) (x1 : Int32) (s0 : Nat) (σ : qH) : q_run 10 160 [(0, .ref x0), (1, .int x1)] [.ref s0] σ = q_run 10 186 [(0, .ref x0), (1, .int x1)] [.int (nI 1000), .ref s0] σ := (q_run_un 10 [0, 85, 110, 130, 160, 186] 106 ..).trans rfl
set_option maxRecDepth 100000 in
theorem e_10_186 (x0 : Nat) (x1 : Int32) (s0 : Int32) (s1 : Nat) (σ : qH) : q_run 10 186 [(0, .ref x0), (1, .int x1)] [.int s0, .ref s1] σ = q_ob (q_put σ (.ref s1) 7 15 0 (.int s0)) none fun h1 => q_ob (q_getI h1 (.ref x0) 7 12) none fun v2 => q_ob (q_put h1 (.ref x0) 7 12 0 (.int (v2 + (nI 1)))) none fun h3 => q_run 10 130 [(0, .ref x0), (1, .int x1)] [] h3 := (q_run_un 10 [0, 85, 110, 130, 160, 186] 106 ..).trans rfl
-- 11 X7_isNumber
set_option maxRecDepth 100000 in
theorem e_11_0 (x0 : Nat) (x1 : Int32) (x2 : Int32) (σ : qH) : q_run 11 0 [(0, .ref x0), (1, .int x1), (2, .int x2)] [] σ = q_ob (q_cV (q_call 10 [.ref x0] σ)) none fun h1 => q_ob (q_getI h1 (.ref x0) 7 13) none fun v2 => if v2 = (nI 2) then q_ob (q_getI h1 (.ref x0) 7 15) none fun v3 => q_ob (q_cI (q_call 8 [.int v3, .int x1, .int x2] h1)) none fun p4 => if p4.1 = nI 0 then q_run 11 28 [] [] p4.2 else some (some (.int (nI 1)), p4.2) else q_run 11 28 [] [] h1 := (q_run_un 11 [28] 18 ..).trans rfl
set_option maxRecDepth 100000 in
theorem e_11_28  (σ : qH) : q_run 11 28 [] [] σ = some (some (.int (nI 0)), σ) := (q_run_un 11 [28] 18 ..).trans rfl
-- 12 X7_number
set_option maxRecDepth 100000 in
theorem e_12_0 (x0 : Nat) (x1 : Int32) (x2 : Int32) (x3 : Int32) (σ : qH) : q_run 12 0 [(0, .ref x0), (1, .int x1), (2, .int x2), (3, .int x3)] [] σ = q_ob (q_cI (q_call 11 [.ref x0, .int x2, .int x3] σ)) none fun p1 => q_ob (q_getR p1.2 (.ref x0) 7 4) none fun v2 => q_ob (q_getI p1.2 (.ref x0) 7 15) none fun v3 => q_ob (q_astI p1.2 (.ref v2) 1 x1 v3) none fun h4 => q_bt (q_okv 4 (.int p1.1)) (some (some (.int p1.1), h4)) none := (q_run_un 12 [] 15 ..).trans rfl
-- 13 X7_readsDoor
set_option maxRecDepth 100000 in
theorem e_13_0 (x0 : Nat) (σ : qH) : q_run 13 0 [(0, .ref x0)] [] σ = q_ob (q_getR σ (.ref x0) 7 4) none fun v1 => q_ob (q_aldI σ (.ref v1) 1 (nI 0)) none fun v2 => q_ob (q_cI (q_call 11 [.ref x0, .int (nI 0), .int (v2 - (nI 1))] σ)) none fun p3 => if p3.1 = nI 0 then some (some (.int (nI 0)), p3.2) else q_ob (q_getI p3.2 (.ref x0) 7 15) none fun v4 => q_ob (q_getR p3.2 (.ref x0) 7 4) none fun v5 => q_ob (q_aldI p3.2 (.ref v5) 1 (nI 0)) none fun v6 => q_ob (q_cI (q_call 11 [.ref x0, .int (nI 0), .int (v6 - (nI 1))] p3.2)) none fun p7 => if p7.1 = nI 0 then q_run 13 47 [] [] p7.2 else q_ob (q_getI p7.2 (.ref x0) 7 15) none fun v8 => if v8 = v4 then q_run 13 47 [] [] p7.2 else q_ob (q_getR p7.2 (.ref x0) 7 4) none fun v9 => q_ob (q_aldI p7.2 (.ref v9) 1 ((nI 15) + v4)) none fun v10 => q_ob (q_getI p7.2 (.ref x0) 7 15) none fun v11 => q_ob (q_astI p7.2 (.ref v9) 1 ((nI 15) + v4) (v10 ||| ((nI 1) <<< (v11 &&& 31)))) none fun h12 => q_ob (q_getR h12 (.ref x0) 7 4) none fun v13 => q_ob (q_getI h12 (.ref x0) 7 15) none fun v14 => q_ob (q_aldI h12 (.ref v13) 1 ((nI 15) + v14)) none fun v15 => q_ob (q_astI h12 (.ref v13) 1 ((nI 15) + v14) (v15 ||| ((nI 1) <<< (v4 &&& 31)))) none fun h16 => some (some (.int (nI 1)), h16) := (q_run_un 13 [47] 61 ..).trans rfl
set_option maxRecDepth 100000 in
theorem e_13_47  (σ : qH) : q_run 13 47 [] [] σ = some (some (.int (nI 0)), σ) := (q_run_un 13 [47] 61 ..).trans rfl
-- 14 X7_readsItem
set_option maxRecDepth 100000 in
theorem e_14_0 (x0 : Nat) (σ : qH) : q_run 14 0 [(0, .ref x0)] [] σ = q_ob (q_getI σ (.ref x0) 7 13) none fun v1 => if v1 = (nI 1) then q_ob (q_getI σ (.ref x0) 7 15) none fun v2 => q_run 14 16 [(0, .ref x0)] [.int v2] σ else q_run 14 16 [(0, .ref x0)] [.int (nI 0)] σ := (q_run_un 14 [16, 38, 115, 186] 125 ..).trans rfl
set_option maxRecDepth 100000 in
theorem e_14_16 (x0 : Nat) (s0 : Int32) (σ : qH) : q_run 14 16 [(0, .ref x0)] [.int s0] σ = if s0 = (nI 114) then q_ob (q_getR σ (.ref x0) 7 4) none fun v3 => q_ob (q_aldI σ (.ref v3) 1 (nI 0)) none fun v4 => q_run 14 38 [(0, .ref x0), (1, .int s0)] [.int v4] σ else q_ob (q_getR σ (.ref x0) 7 4) none fun v1 => q_ob (q_aldI σ (.ref v1) 1 (nI 1)) none fun v2 => q_run 14 38 [(0, .ref x0), (1, .int s0)] [.int v2] σ := (q_run_un 14 [16, 38, 115, 186] 125 ..).trans rfl
set_option maxRecDepth 100000 in
theorem e_14_38 (x0 : Nat) (x1 : Int32) (s0 : Int32) (σ : qH) : q_run 14 38 [(0, .ref x0), (1, .int x1)] [.int s0] σ = if x1 = nI 100 then q_ob (q_cI (q_call 13 [.ref x0] σ)) none fun p1 => q_bt (q_okv 4 (.int p1.1)) (some (some (.int p1.1), p1.2)) none else if x1 = nI 102 then if s0 = (nI 5) then q_run 14 186 [] [] σ else q_ob (q_getR σ (.ref x0) 7 4) none fun v2 => q_ob (q_aldI σ (.ref v2) 1 (nI 0)) none fun v3 => q_ob (q_cI (q_call 12 [.ref x0, .int ((nI 20) + s0), .int (nI 0), .int (v3 - (nI 1))] σ)) none fun p4 => if p4.1 = nI 0 then q_run 14 186 [] [] p4.2 else q_ob (q_cI (q_call 12 [.ref x0, .int ((nI 25) + s0), .int (nI 1), .int (nI 9)] p4.2)) none fun p5 => if p5.1 = nI 0 then q_run 14 186 [] [] p5.2 else q_ob (q_cI (q_call 12 [.ref x0, .int ((nI 30) + s0), .int (nI 0), .int (nI 2)] p5.2)) none fun p6 => if p6.1 = nI 0 then q_run 14 186 [] [] p6.2 else q_ob (q_getR p6.2 (.ref x0) 7 4) none fun v7 => q_ob (q_aldI p6.2 (.ref v7) 1 (nI 1)) none fun v8 => q_ob (q_astI p6.2 (.ref v7) 1 (nI 1) (v8 + (nI 1))) none fun h9 => some (some (.int (nI 1)), h9) else if x1 = nI 110 then q_ob (q_getR σ (.ref x0) 7 4) none fun v10 => q_ob (q_aldI σ (.ref v10) 1 (nI 4)) none fun v11 => if v11 = (nI 1) then some (some (.int (nI 0)), σ) else q_ob (q_getR σ (.ref x0) 7 4) none fun v12 => q_ob (q_astI σ (.ref v12) 1 (nI 4) (nI 1)) none fun h13 => q_ob (q_cI (q_call 12 [.ref x0, .int (nI 2), .int (nI 1), .int (nI 99)] h13)) none fun p14 => q_bt (q_okv 4 (.int p14.1)) (some (some (.int p14.1), p14.2)) none else if x1 = nI 114 then if s0 = (nI 5) then q_run 14 115 [] [] σ else q_ob (q_cI (q_call 12 [.ref x0, .int ((nI 5) + s0), .int (nI 1), .int (nI 5)] σ)) none fun p15 => if p15.1 = nI 0 then q_run 14 115 [] [] p15.2 else q_ob (q_cI (q_call 12 [.ref x0, .int ((nI 10) + s0), .int (nI 0), .int (nI 60)] p15.2)) none fun p16 => if p16.1 = nI 0 then q_run 14 115 [] [] p16.2 else q_ob (q_getR p16.2 (.ref x0) 7 4) none fun v17 => q_ob (q_aldI p16.2 (.ref v17) 1 (nI 0)) none fun v18 => q_ob (q_astI p16.2 (.ref v17) 1 (nI 0) (v18 + (nI 1))) none fun h19 => some (some (.int (nI 1)), h19) else some (some (.int (nI 0)), σ) := (q_run_un 14 [16, 38, 115, 186] 125 ..).trans rfl
set_option maxRecDepth 100000 in
theorem e_14_115  (σ : qH) : q_run 14 115 [] [] σ = some (some (.int (nI 0)), σ) := (q_run_un 14 [16, 38, 115, 186] 125 ..).trans rfl
set_option maxRecDepth 100000 in
theorem e_14_186  (σ : qH) : q_run 14 186 [] [] σ = some (some (.int (nI 0)), σ) := (q_run_un 14 [16, 38, 115, 186] 125 ..).trans rfl
-- 15 X7_reads
set_option maxRecDepth 100000 in
theorem e_15_0 (x0 : Nat) (σ : qH) : q_run 15 0 [(0, .ref x0)] [] σ = q_run 15 2 [(0, .ref x0), (1, .int (nI 0))] [] σ := (q_run_un 15 [2, 38] 53 ..).trans rfl
set_option maxRecDepth 100000 in
theorem e_15_2 (x0 : Nat) (x1 : Int32) (σ : qH) : q_run 15 2 [(0, .ref x0), (1, .int x1)] [] σ = if (nI 35) ≤ x1 then q_ob (q_getR σ (.ref x0) 7 4) none fun v1 => q_ob (q_astI σ (.ref v1) 1 (nI 2) (nI 20)) none fun h2 => q_ob (q_put h2 (.ref x0) 7 12 0 (.int (nI 0))) none fun h3 => q_ob (q_cV (q_call 10 [.ref x0] h3)) none fun h4 => q_run 15 38 [(0, .ref x0)] [] h4 else q_ob (q_getR σ (.ref x0) 7 4) none fun v5 => q_ob (q_astI σ (.ref v5) 1 x1 (nI 0)) none fun h6 => q_run 15 2 [(0, .ref x0), (1, .int (x1 + (nI 1)))] [] h6 := (q_run_un 15 [2, 38] 53 ..).trans rfl
set_option maxRecDepth 100000 in
theorem e_15_38 (x0 : Nat) (σ : qH) : q_run 15 38 [(0, .ref x0)] [] σ = q_ob (q_getI σ (.ref x0) 7 13) none fun v1 => if v1 = nI 0 then some (some (.int (nI 1)), σ) else q_ob (q_cI (q_call 14 [.ref x0] σ)) none fun p2 => if p2.1 = nI 0 then some (some (.int (nI 0)), p2.2) else q_ob (q_cV (q_call 10 [.ref x0] p2.2)) none fun h3 => q_ob (q_getI h3 (.ref x0) 7 13) none fun v4 => if v4 = (nI 3) then q_ob (q_getR h3 (.ref x0) 7 4) none fun v5 => q_ob (q_aldI h3 (.ref v5) 1 (nI 3)) none fun v6 => q_ob (q_astI h3 (.ref v5) 1 (nI 3) (v6 + (nI 1))) none fun h7 => q_ob (q_cV (q_call 10 [.ref x0] h7)) none fun h8 => q_run 15 38 [(0, .ref x0)] [] h8 else some (some (.int (nI 0)), h3) := (q_run_un 15 [2, 38] 53 ..).trans rfl
-- 16 X7_begins
set_option maxRecDepth 100000 in
theorem e_16_0 (x0 : Nat) (σ : qH) : q_run 16 0 [(0, .ref x0)] [] σ = q_run 16 2 [(0, .ref x0), (1, .int (nI 0))] [] σ := (q_run_un 16 [2, 28, 83] 70 ..).trans rfl
set_option maxRecDepth 100000 in
theorem e_16_2 (x0 : Nat) (x1 : Int32) (σ : qH) : q_run 16 2 [(0, .ref x0), (1, .int x1)] [] σ = if (nI 35) ≤ x1 then q_run 16 28 [(0, .ref x0), (1, .int (nI 0))] [] σ else q_ob (q_getR σ (.ref x0) 7 3) none fun v1 => q_ob (q_getR σ (.ref x0) 7 4) none fun v2 => q_ob (q_aldI σ (.ref v2) 1 x1) none fun v3 => q_ob (q_astI σ (.ref v1) 1 x1 v3) none fun h4 => q_run 16 2 [(0, .ref x0), (1, .int (x1 + (nI 1)))] [] h4 := (q_run_un 16 [2, 28, 83] 70 ..).trans rfl
set_option maxRecDepth 100000 in
theorem e_16_28 (x0 : Nat) (x1 : Int32) (σ : qH) : q_run 16 28 [(0, .ref x0), (1, .int x1)] [] σ = if (nI 22) ≤ x1 then q_ob (q_put σ (.ref x0) 7 7 0 (.int (nI 0))) none fun h1 => q_ob (q_put h1 (.ref x0) 7 11 0 (.int (nI 0))) none fun h2 => q_ob (q_getR h2 (.ref x0) 7 9) none fun v3 => q_ob (q_astI h2 (.ref v3) 3 (nI 0) (vp_nar .boolean (nI 0))) none fun h4 => q_ob (q_getR h4 (.ref x0) 7 9) none fun v5 => q_ob (q_astI h4 (.ref v5) 3 (nI 1) (vp_nar .boolean (nI 0))) none fun h6 => some (none, h6) else q_ob (q_getR σ (.ref x0) 7 5) none fun v7 => if (nI 5) ≤ x1 then q_ob (q_cI (q_call 8 [.int x1, .int (nI 15), .int (nI 19)] σ)) none fun p8 => if p8.1 = nI 0 then q_run 16 83 [(0, .ref x0), (1, .int x1)] [.int (nI 0), .int x1, .ref v7] p8.2 else q_ob (q_getR p8.2 (.ref x0) 7 3) none fun v9 => q_ob (q_aldI p8.2 (.ref v9) 1 (((nI 10) + x1) - (nI 15))) none fun v10 => q_run 16 83 [(0, .ref x0), (1, .int x1)] [.int v10, .int x1, .ref v7] p8.2 else q_ob (q_getR σ (.ref x0) 7 3) none fun v11 => q_ob (q_aldI σ (.ref v11) 1 ((nI 20) + x1)) none fun v12 => q_run 16 83 [(0, .ref x0), (1, .int x1)] [.int v12, .int x1, .ref v7] σ := (q_run_un 16 [2, 28, 83] 70 ..).trans rfl
set_option maxRecDepth 100000 in
theorem e_16_83 (x0 : Nat) (x1 : Int32) (s0 : Int32) (s1 : Int32) (s2 : Nat) (σ : qH) : q_run 16 83 [(0, .ref x0), (1, .int x1)] [.int s0, .int s1, .ref s2] σ = q_ob (q_astI σ (.ref s2) 1 s1 s0) none fun h1 => q_run 16 28 [(0, .ref x0), (1, .int (x1 + (nI 1)))] [] h1 := (q_run_un 16 [2, 28, 83] 70 ..).trans rfl
-- 17 X7_init
set_option maxRecDepth 100000 in
theorem e_17_0 (x0 : Nat) (σ : qH) : q_run 17 0 [(0, .ref x0)] [] σ = q_ob (q_newa σ 1 (nI 120)) none fun h1 => q_ob (q_put h1 (.ref x0) 7 1 2 (.ref σ.2.1)) none fun h2 => q_ob (q_newa h2 1 (nI 35)) none fun h3 => q_ob (q_put h3 (.ref x0) 7 3 2 (.ref h2.2.1)) none fun h4 => q_ob (q_newa h4 1 (nI 35)) none fun h5 => q_ob (q_put h5 (.ref x0) 7 4 2 (.ref h4.2.1)) none fun h6 => q_ob (q_newa h6 1 (nI 22)) none fun h7 => q_ob (q_put h7 (.ref x0) 7 5 2 (.ref h6.2.1)) none fun h8 => q_ob (q_newa h8 1 (nI 220)) none fun h9 => q_ob (q_put h9 (.ref x0) 7 6 2 (.ref h8.2.1)) none fun h10 => q_ob (q_newa h10 1 (nI 44)) none fun h11 => q_ob (q_put h11 (.ref x0) 7 8 2 (.ref h10.2.1)) none fun h12 => q_ob (q_newa h12 3 (nI 2)) none fun h13 => q_ob (q_put h13 (.ref x0) 7 9 2 (.ref h12.2.1)) none fun h14 => q_ob (q_newa h14 1 (nI 12)) none fun h15 => q_ob (q_put h15 (.ref x0) 7 10 2 (.ref h14.2.1)) none fun h16 => q_ob (q_newa h16 1 (nI 22)) none fun h17 => q_ob (q_put h17 (.ref x0) 7 16 2 (.ref h16.2.1)) none fun h18 => q_ob (q_newa h18 2 (nI 49)) none fun h19 => q_ob (q_put h19 (.ref x0) 7 17 2 (.ref h18.2.1)) none fun h20 => q_ob (q_newa h20 2 (nI 49)) none fun h21 => q_ob (q_put h21 (.ref x0) 7 18 2 (.ref h20.2.1)) none fun h22 => q_ob (q_cI (q_call 15 [.ref x0] h22)) none fun p23 => q_ob (q_cV (q_call 16 [.ref x0] p23.2)) none fun h24 => some (none, h24) := (q_run_un 17 [] 54 ..).trans rfl
-- 18 X6_type
set_option maxRecDepth 100000 in
theorem e_18_0 (x0 : Nat) (x1 : Int32) (σ : qH) : q_run 18 0 [(0, .ref x0), (1, .int x1)] [] σ = if x1 < nI 0 then q_run 18 11 [] [] σ else if x1 ≤ (nI 255) then q_ob (q_getI σ (.ref x0) 6 1) none fun v1 => if v1 < nI 0 then q_run 18 32 [] [] σ else q_ob (q_getI σ (.ref x0) 6 1) none fun v2 => q_ob (q_getR σ (.ref x0) 6 0) none fun v3 => q_ob (q_alen σ (.ref v3) 0) none fun v4 => if v2 < v4 then q_ob (q_getR σ (.ref x0) 6 0) none fun v5 => q_ob (q_getI σ (.ref x0) 6 1) none fun v6 => q_ob (q_astI σ (.ref v5) 0 v6 (vp_nar .char (Int32.toUInt32 x1 % 65536).toInt32)) none fun h7 => q_ob (q_getI h7 (.ref x0) 6 1) none fun v8 => q_ob (q_put h7 (.ref x0) 6 1 0 (.int (v8 + (nI 1)))) none fun h9 => q_ob (q_getI h9 (.ref x0) 6 1) none fun v10 => some (some (.int v10), h9) else q_run 18 32 [] [] σ else q_run 18 11 [] [] σ := (q_run_un 18 [11, 32] 36 ..).trans rfl
set_option maxRecDepth 100000 in
theorem e_18_11  (σ : qH) : q_run 18 11 [] [] σ = some (some (.int (-1 : Int32)), σ) := (q_run_un 18 [11, 32] 36 ..).trans rfl
set_option maxRecDepth 100000 in
theorem e_18_32  (σ : qH) : q_run 18 32 [] [] σ = some (some (.int (-3 : Int32)), σ) := (q_run_un 18 [11, 32] 36 ..).trans rfl
-- 19 X7_type
set_option maxRecDepth 100000 in
theorem e_19_0 (x0 : Nat) (x1 : Int32) (σ : qH) : q_run 19 0 [(0, .ref x0), (1, .int x1)] [] σ = q_ob (q_cI (q_call 8 [.int x1, .int (nI 0), .int (nI 255)] σ)) none fun p1 => if p1.1 = nI 0 then some (some (.int (-1 : Int32)), p1.2) else q_ob (q_getI p1.2 (.ref x0) 7 2) none fun v2 => if v2 = (nI 120) then some (some (.int (-3 : Int32)), p1.2) else q_ob (q_getR p1.2 (.ref x0) 7 1) none fun v3 => q_ob (q_getI p1.2 (.ref x0) 7 2) none fun v4 => q_ob (q_astI p1.2 (.ref v3) 1 v4 x1) none fun h5 => q_ob (q_getI h5 (.ref x0) 7 2) none fun v6 => q_ob (q_put h5 (.ref x0) 7 2 0 (.int (v6 + (nI 1)))) none fun h7 => q_ob (q_getI h7 (.ref x0) 7 2) none fun v8 => some (some (.int v8), h7) := (q_run_un 19 [] 30 ..).trans rfl
-- 20 X6_clear
set_option maxRecDepth 100000 in
theorem e_20_0 (x0 : Nat) (σ : qH) : q_run 20 0 [(0, .ref x0)] [] σ = q_ob (q_getI σ (.ref x0) 6 1) none fun v1 => q_ob (q_put σ (.ref x0) 6 1 0 (.int (nI 0))) none fun h2 => some (some (.int v1), h2) := (q_run_un 20 [] 10 ..).trans rfl
-- 21 X7_clear
set_option maxRecDepth 100000 in
theorem e_21_0 (x0 : Nat) (σ : qH) : q_run 21 0 [(0, .ref x0)] [] σ = q_ob (q_getI σ (.ref x0) 7 2) none fun v1 => q_ob (q_put σ (.ref x0) 7 2 0 (.int (nI 0))) none fun h2 => some (some (.int v1), h2) := (q_run_un 21 [] 10 ..).trans rfl
-- 22 X4_init
set_option maxRecDepth 100000 in
theorem e_22_0 (x0 : Nat) (x1 : Nat) (x2 : Int32) (σ : qH) : q_run 22 0 [(0, .ref x0), (1, .ref x1), (2, .int x2)] [] σ = q_ob (q_put σ (.ref x0) 4 2 3 (.int (nI 32))) none fun h1 => q_ob (q_put h1 (.ref x0) 4 3 0 (.int (nI 0))) none fun h2 => q_ob (q_put h2 (.ref x0) 4 4 0 (.int (nI 0))) none fun h3 => q_ob (q_put h3 (.ref x0) 4 5 0 (.int (nI 0))) none fun h4 => q_ob (q_put h4 (.ref x0) 4 6 0 (.int (nI 0))) none fun h5 => q_ob (q_put h5 (.ref x0) 4 7 0 (.int (nI 0))) none fun h6 => q_ob (q_cV (q_call 0 [.ref h6.2.1] (q_new h6 (.inl (3, q_dfl 3)) 10))) none fun h7 => q_ob (q_put h7 (.ref x0) 4 8 2 (.ref h6.2.1)) none fun h8 => q_ob (q_put h8 (.ref x0) 4 0 2 (.ref x1)) none fun h9 => q_ob (q_alen h9 (.ref x1) 0) none fun v10 => q_ob (q_put h9 (.ref x0) 4 1 0 (.int (q_min x2 v10))) none fun h11 => some (none, h11) := (q_run_un 22 [] 37 ..).trans rfl
-- 23 X4_letterAt
set_option maxRecDepth 100000 in
theorem e_23_0 (x0 : Nat) (x1 : Int32) (σ : qH) : q_run 23 0 [(0, .ref x0), (1, .int x1)] [] σ = if x1 < nI 0 then q_run 23 21 [] [] σ else q_ob (q_getI σ (.ref x0) 4 1) none fun v1 => if v1 ≤ x1 then q_run 23 21 [] [] σ else q_ob (q_getR σ (.ref x0) 4 0) none fun v2 => q_ob (q_alen σ (.ref v2) 0) none fun v3 => if x1 < v3 then q_ob (q_getR σ (.ref x0) 4 0) none fun v4 => q_ob (q_aldI σ (.ref v4) 0 x1) none fun v5 => q_bt (q_okv 3 (.int v5)) (some (some (.int v5), σ)) none else q_run 23 21 [] [] σ := (q_run_un 23 [21] 20 ..).trans rfl
set_option maxRecDepth 100000 in
theorem e_23_21  (σ : qH) : q_run 23 21 [] [] σ = q_bt (q_okv 3 (.int (nI 32))) (some (some (.int (nI 32)), σ)) none := (q_run_un 23 [21] 20 ..).trans rfl
-- 24 X4_isDigit
set_option maxRecDepth 100000 in
theorem e_24_0 (x0 : Nat) (x1 : Int32) (σ : qH) : q_run 24 0 [(0, .ref x0), (1, .int x1)] [] σ = q_ob (q_cI (q_call 23 [.ref x0, .int x1] σ)) none fun p1 => if p1.1 < (nI 48) then q_run 24 22 [] [] p1.2 else if (nI 57) < p1.1 then q_run 24 22 [] [] p1.2 else some (some (.int (nI 1)), p1.2) := (q_run_un 24 [22] 16 ..).trans rfl
set_option maxRecDepth 100000 in
theorem e_24_22  (σ : qH) : q_run 24 22 [] [] σ = some (some (.int (nI 0)), σ) := (q_run_un 24 [22] 16 ..).trans rfl
-- 25 X4_isTokenStart
set_option maxRecDepth 100000 in
theorem e_25_0 (x0 : Nat) (x1 : Int32) (σ : qH) : q_run 25 0 [(0, .ref x0), (1, .int x1)] [] σ = q_ob (q_cI (q_call 23 [.ref x0, .int x1] σ)) none fun p1 => if p1.1 = (nI 32) then q_run 25 32 [] [] p1.2 else q_ob (q_cI (q_call 24 [.ref x0, .int x1] p1.2)) none fun p2 => if p2.1 = nI 0 then q_run 25 28 [] [] p2.2 else q_ob (q_cI (q_call 24 [.ref x0, .int (x1 - (nI 1))] p2.2)) none fun p3 => if p3.1 = nI 0 then q_run 25 28 [] [] p3.2 else q_run 25 32 [] [] p3.2 := (q_run_un 25 [28, 32] 21 ..).trans rfl
set_option maxRecDepth 100000 in
theorem e_25_28  (σ : qH) : q_run 25 28 [] [] σ = some (some (.int (nI 1)), σ) := (q_run_un 25 [28, 32] 21 ..).trans rfl
set_option maxRecDepth 100000 in
theorem e_25_32  (σ : qH) : q_run 25 32 [] [] σ = some (some (.int (nI 0)), σ) := (q_run_un 25 [28, 32] 21 ..).trans rfl
-- 26 X4_numberAt
set_option maxRecDepth 100000 in
theorem e_26_0 (x0 : Nat) (x1 : Int32) (σ : qH) : q_run 26 0 [(0, .ref x0), (1, .int x1)] [] σ = q_ob (q_cI (q_call 23 [.ref x0, .int x1] σ)) none fun p1 => q_ob (q_cI (q_call 24 [.ref x0, .int (x1 + (nI 1))] p1.2)) none fun p2 => if p2.1 = nI 0 then some (some (.int (p1.1 - (nI 48))), p2.2) else if (p1.1 - (nI 48)) = nI 0 then q_run 26 35 [] [] p2.2 else q_ob (q_cI (q_call 24 [.ref x0, .int (x1 + (nI 2))] p2.2)) none fun p3 => if p3.1 = nI 0 then q_ob (q_cI (q_call 23 [.ref x0, .int (x1 + (nI 1))] p3.2)) none fun p4 => some (some (.int ((((nI 10) * (p1.1 - (nI 48))) + p4.1) - (nI 48))), p4.2) else q_run 26 35 [] [] p3.2 := (q_run_un 26 [35] 38 ..).trans rfl
set_option maxRecDepth 100000 in
theorem e_26_35  (σ : qH) : q_run 26 35 [] [] σ = some (some (.int (-1 : Int32)), σ) := (q_run_un 26 [35] 38 ..).trans rfl
-- 27 X4_mayTellRoom
set_option maxRecDepth 100000 in
theorem e_27_0 (x0 : Nat) (x1 : Int32) (σ : qH) : q_run 27 0 [(0, .ref x0), (1, .int x1)] [] σ = q_ob (q_getI σ (.ref x0) 4 3) none fun v1 => if v1 = nI 0 then if x1 < (nI 1) then q_run 27 46 [] [] σ else if (nI 5) < x1 then q_run 27 46 [] [] σ else some (some (.int (nI 1)), σ) else if v1 = nI 1 then if (nI 60) < x1 then some (some (.int (nI 0)), σ) else some (some (.int (nI 1)), σ) else some (some (.int (nI 0)), σ) := (q_run_un 27 [46] 24 ..).trans rfl
set_option maxRecDepth 100000 in
theorem e_27_46  (σ : qH) : q_run 27 46 [] [] σ = some (some (.int (nI 0)), σ) := (q_run_un 27 [46] 24 ..).trans rfl
-- 28 X3_hasRoom
set_option maxRecDepth 100000 in
theorem e_28_0 (x0 : Nat) (x1 : Int32) (σ : qH) : q_run 28 0 [(0, .ref x0), (1, .int x1)] [] σ = if x1 < nI 0 then q_run 28 16 [] [] σ else q_ob (q_getI σ (.ref x0) 3 0) none fun v1 => if v1 ≤ x1 then q_run 28 16 [] [] σ else some (some (.int (nI 1)), σ) := (q_run_un 28 [16] 12 ..).trans rfl
set_option maxRecDepth 100000 in
theorem e_28_16  (σ : qH) : q_run 28 16 [] [] σ = some (some (.int (nI 0)), σ) := (q_run_un 28 [16] 12 ..).trans rfl
-- 29 X4_mayTellFlock
set_option maxRecDepth 100000 in
theorem e_29_0 (x0 : Nat) (x1 : Int32) (σ : qH) : q_run 29 0 [(0, .ref x0), (1, .int x1)] [] σ = q_ob (q_getI σ (.ref x0) 4 3) none fun v1 => if v1 = nI 0 then q_ob (q_getR σ (.ref x0) 4 8) none fun v2 => q_ob (q_cI (q_call 28 [.ref v2, .int x1] σ)) none fun p3 => q_bt (q_okv 4 (.int p3.1)) (some (some (.int p3.1), p3.2)) none else if v1 = nI 1 then if x1 < (nI 1) then q_run 29 56 [] [] σ else if (nI 9) < x1 then q_run 29 56 [] [] σ else some (some (.int (nI 1)), σ) else if v1 = nI 2 then if (nI 2) < x1 then some (some (.int (nI 0)), σ) else some (some (.int (nI 1)), σ) else some (some (.int (nI 0)), σ) := (q_run_un 29 [56] 29 ..).trans rfl
set_option maxRecDepth 100000 in
theorem e_29_56  (σ : qH) : q_run 29 56 [] [] σ = some (some (.int (nI 0)), σ) := (q_run_un 29 [56] 29 ..).trans rfl
-- 30 X4_mayBe
set_option maxRecDepth 100000 in
theorem e_30_0 (x0 : Nat) (x1 : Int32) (σ : qH) : q_run 30 0 [(0, .ref x0), (1, .int x1)] [] σ = q_ob (q_getI σ (.ref x0) 4 2) none fun v1 => if v1 = nI 100 then q_ob (q_getI σ (.ref x0) 4 3) none fun v2 => if (nI 2) ≤ v2 then q_run 30 93 [] [] σ else q_ob (q_getR σ (.ref x0) 4 8) none fun v3 => q_ob (q_cI (q_call 28 [.ref v3, .int x1] σ)) none fun p4 => if p4.1 = nI 0 then q_run 30 93 [] [] p4.2 else q_ob (q_getI p4.2 (.ref x0) 4 3) none fun v5 => if v5 = (nI 1) then q_ob (q_getI p4.2 (.ref x0) 4 4) none fun v6 => if x1 = v6 then q_run 30 93 [] [] p4.2 else q_run 30 89 [] [] p4.2 else q_run 30 89 [] [] p4.2 else if v1 = nI 102 then q_ob (q_cI (q_call 29 [.ref x0, .int x1] σ)) none fun p7 => q_bt (q_okv 4 (.int p7.1)) (some (some (.int p7.1), p7.2)) none else if v1 = nI 110 then q_ob (q_getI σ (.ref x0) 4 3) none fun v8 => if v8 = nI 0 then if x1 < (nI 1) then q_run 30 117 [] [] σ else some (some (.int (nI 1)), σ) else q_run 30 117 [] [] σ else if v1 = nI 114 then q_ob (q_cI (q_call 27 [.ref x0, .int x1] σ)) none fun p9 => q_bt (q_okv 4 (.int p9.1)) (some (some (.int p9.1), p9.2)) none else some (some (.int (nI 0)), σ) := (q_run_un 30 [89, 93, 117] 46 ..).trans rfl
set_option maxRecDepth 100000 in
theorem e_30_89  (σ : qH) : q_run 30 89 [] [] σ = some (some (.int (nI 1)), σ) := (q_run_un 30 [89, 93, 117] 46 ..).trans rfl
set_option maxRecDepth 100000 in
theorem e_30_93  (σ : qH) : q_run 30 93 [] [] σ = some (some (.int (nI 0)), σ) := (q_run_un 30 [89, 93, 117] 46 ..).trans rfl
set_option maxRecDepth 100000 in
theorem e_30_117  (σ : qH) : q_run 30 117 [] [] σ = some (some (.int (nI 0)), σ) := (q_run_un 30 [89, 93, 117] 46 ..).trans rfl
-- 31 X4_takesNumber
set_option maxRecDepth 100000 in
theorem e_31_0 (x0 : Nat) (x1 : Int32) (σ : qH) : q_run 31 0 [(0, .ref x0), (1, .int x1)] [] σ = if x1 < nI 0 then q_run 31 12 [] [] σ else q_ob (q_cI (q_call 30 [.ref x0, .int x1] σ)) none fun p1 => if p1.1 = nI 0 then q_run 31 12 [] [] p1.2 else q_ob (q_getI p1.2 (.ref x0) 4 3) none fun v2 => if v2 = nI 0 then q_ob (q_put p1.2 (.ref x0) 4 4 0 (.int x1)) none fun h6 => q_run 31 50 [(0, .ref x0)] [] h6 else q_ob (q_getI p1.2 (.ref x0) 4 3) none fun v3 => if v3 = (nI 1) then q_ob (q_put p1.2 (.ref x0) 4 5 0 (.int x1)) none fun h5 => q_run 31 50 [(0, .ref x0)] [] h5 else q_ob (q_put p1.2 (.ref x0) 4 6 0 (.int x1)) none fun h4 => q_run 31 50 [(0, .ref x0)] [] h4 := (q_run_un 31 [12, 50] 36 ..).trans rfl
set_option maxRecDepth 100000 in
theorem e_31_12  (σ : qH) : q_run 31 12 [] [] σ = some (some (.int (nI 0)), σ) := (q_run_un 31 [12, 50] 36 ..).trans rfl
set_option maxRecDepth 100000 in
theorem e_31_50 (x0 : Nat) (σ : qH) : q_run 31 50 [(0, .ref x0)] [] σ = q_ob (q_getI σ (.ref x0) 4 3) none fun v1 => q_ob (q_put σ (.ref x0) 4 3 0 (.int (v1 + (nI 1)))) none fun h2 => some (some (.int (nI 1)), h2) := (q_run_un 31 [12, 50] 36 ..).trans rfl
-- 32 X4_numbersOf
set_option maxRecDepth 100000 in
theorem e_32_0 (x0 : Int32) (σ : qH) : q_run 32 0 [(0, .int x0)] [] σ = if x0 = nI 102 then some (some (.int (nI 3)), σ) else if x0 = nI 110 then some (some (.int (nI 1)), σ) else some (some (.int (nI 2)), σ) := (q_run_un 32 [] 10 ..).trans rfl
-- 33 X6_withLane
set_option maxRecDepth 100000 in
theorem e_33_0 (x0 : Int64) (x2 : Int32) (x3 : Int32) (σ : qH) : q_run 33 0 [(0, .long x0), (2, .int x2), (3, .int x3)] [] σ = some (some (.long ((x0 &&& (((lN 255) <<< (Int32.toInt64 ((nI 8) * x2) &&& 63)) ^^^ (-1 : Int64))) ||| ((Int32.toInt64 (x3 &&& (nI 255))) <<< (Int32.toInt64 ((nI 8) * x2) &&& 63)))), σ) := (q_run_un 33 [] 21 ..).trans rfl
-- 34 X3_addRoom
set_option maxRecDepth 100000 in
theorem e_34_0 (x0 : Nat) (x1 : Int32) (x2 : Int32) (σ : qH) : q_run 34 0 [(0, .ref x0), (1, .int x1), (2, .int x2)] [] σ = q_ob (q_getL σ (.ref x0) 3 4) none fun v1 => q_ob (q_getI σ (.ref x0) 3 0) none fun v2 => q_ob (q_cL (q_call 33 [.long v1, .int v2, .int x1] σ)) none fun p3 => q_ob (q_put p3.2 (.ref x0) 3 4 1 (.long p3.1)) none fun h4 => q_ob (q_getL h4 (.ref x0) 3 5) none fun v5 => q_ob (q_getI h4 (.ref x0) 3 0) none fun v6 => q_ob (q_cL (q_call 33 [.long v5, .int v6, .int x2] h4)) none fun p7 => q_ob (q_put p7.2 (.ref x0) 3 5 1 (.long p7.1)) none fun h8 => q_ob (q_getI h8 (.ref x0) 3 0) none fun v9 => q_ob (q_put h8 (.ref x0) 3 0 0 (.int (v9 + (nI 1)))) none fun h10 => some (none, h10) := (q_run_un 34 [] 25 ..).trans rfl
-- 35 X6_lane
set_option maxRecDepth 100000 in
theorem e_35_0 (x0 : Int64) (x2 : Int32) (σ : qH) : q_run 35 0 [(0, .long x0), (2, .int x2)] [] σ = some (some (.int ((Int64.toInt32 (Int64.toUInt64 x0 >>> ((Int32.toInt64 ((nI 8) * x2)).toUInt64 &&& Int64.toUInt64 63)).toInt64) &&& (nI 255))), σ) := (q_run_un 35 [] 11 ..).trans rfl
-- 36 X3_addDoor
set_option maxRecDepth 100000 in
theorem e_36_0 (x0 : Nat) (x1 : Int32) (x2 : Int32) (σ : qH) : q_run 36 0 [(0, .ref x0), (1, .int x1), (2, .int x2)] [] σ = q_ob (q_getL σ (.ref x0) 3 6) none fun v1 => q_ob (q_getL σ (.ref x0) 3 6) none fun v2 => q_ob (q_cI (q_call 35 [.long v2, .int x1] σ)) none fun p3 => q_ob (q_cL (q_call 33 [.long v1, .int x1, .int (p3.1 ||| ((nI 1) <<< (x2 &&& 31)))] p3.2)) none fun p4 => q_ob (q_put p4.2 (.ref x0) 3 6 1 (.long p4.1)) none fun h5 => q_ob (q_getL h5 (.ref x0) 3 6) none fun v6 => q_ob (q_getL h5 (.ref x0) 3 6) none fun v7 => q_ob (q_cI (q_call 35 [.long v7, .int x2] h5)) none fun p8 => q_ob (q_cL (q_call 33 [.long v6, .int x2, .int (p8.1 ||| ((nI 1) <<< (x1 &&& 31)))] p8.2)) none fun p9 => q_ob (q_put p9.2 (.ref x0) 3 6 1 (.long p9.1)) none fun h10 => some (none, h10) := (q_run_un 36 [] 31 ..).trans rfl
-- 37 X6_withSpot
set_option maxRecDepth 100000 in
theorem e_37_0 (x0 : Int32) (x1 : Int32) (x2 : Int32) (σ : qH) : q_run 37 0 [(0, .int x0), (1, .int x1), (2, .int x2)] [] σ = some (some (.int ((x0 &&& (((nI 7) <<< (((nI 3) * ((nI 4) - x1)) &&& 31)) ^^^ (-1 : Int32))) ||| ((x2 &&& (nI 7)) <<< (((nI 3) * ((nI 4) - x1)) &&& 31)))), σ) := (q_run_un 37 [] 22 ..).trans rfl
-- 38 X3_addFlock
set_option maxRecDepth 100000 in
theorem e_38_0 (x0 : Nat) (x1 : Int32) (x2 : Int32) (x3 : Int32) (σ : qH) : q_run 38 0 [(0, .ref x0), (1, .int x1), (2, .int x2), (3, .int x3)] [] σ = q_ob (q_getI σ (.ref x0) 3 7) none fun v1 => q_ob (q_getI σ (.ref x0) 3 1) none fun v2 => q_ob (q_cI (q_call 37 [.int v1, .int v2, .int x1] σ)) none fun p3 => q_ob (q_put p3.2 (.ref x0) 3 7 0 (.int p3.1)) none fun h4 => q_ob (q_getL h4 (.ref x0) 3 8) none fun v5 => q_ob (q_getI h4 (.ref x0) 3 1) none fun v6 => q_ob (q_cL (q_call 33 [.long v5, .int v6, .int x2] h4)) none fun p7 => q_ob (q_put p7.2 (.ref x0) 3 8 1 (.long p7.1)) none fun h8 => q_ob (q_getL h8 (.ref x0) 3 9) none fun v9 => q_ob (q_getI h8 (.ref x0) 3 1) none fun v10 => q_ob (q_cL (q_call 33 [.long v9, .int v10, .int x3] h8)) none fun p11 => q_ob (q_put p11.2 (.ref x0) 3 9 1 (.long p11.1)) none fun h12 => q_ob (q_getI h12 (.ref x0) 3 1) none fun v13 => q_ob (q_put h12 (.ref x0) 3 1 0 (.int (v13 + (nI 1)))) none fun h14 => some (none, h14) := (q_run_un 38 [] 33 ..).trans rfl
-- 39 X3_tellLambAt
set_option maxRecDepth 100000 in
theorem e_39_0 (x0 : Nat) (x1 : Int32) (σ : qH) : q_run 39 0 [(0, .ref x0), (1, .int x1)] [] σ = q_ob (q_put σ (.ref x0) 3 2 0 (.int x1)) none fun h1 => q_ob (q_put h1 (.ref x0) 3 3 4 (.int (nI 1))) none fun h2 => some (none, h2) := (q_run_un 39 [] 9 ..).trans rfl
-- 40 X4_takesEnd
set_option maxRecDepth 100000 in
theorem e_40_0 (x0 : Nat) (σ : qH) : q_run 40 0 [(0, .ref x0)] [] σ = q_ob (q_getI σ (.ref x0) 4 2) none fun v1 => if v1 = (nI 32) then q_run 40 23 [] [] σ else q_ob (q_getI σ (.ref x0) 4 3) none fun v2 => q_ob (q_getI σ (.ref x0) 4 2) none fun v3 => q_ob (q_cI (q_call 32 [.int v3] σ)) none fun p4 => if v2 = p4.1 then q_ob (q_getI p4.2 (.ref x0) 4 2) none fun v5 => if v5 = nI 100 then q_ob (q_getR p4.2 (.ref x0) 4 8) none fun v6 => q_ob (q_getI p4.2 (.ref x0) 4 4) none fun v7 => q_ob (q_getI p4.2 (.ref x0) 4 5) none fun v8 => q_ob (q_cV (q_call 36 [.ref v6, .int v7, .int v8] p4.2)) none fun h9 => q_run 40 133 [(0, .ref x0)] [] h9 else if v5 = nI 102 then q_ob (q_getR p4.2 (.ref x0) 4 8) none fun v10 => q_ob (q_getI p4.2 (.ref x0) 4 4) none fun v11 => q_ob (q_getI p4.2 (.ref x0) 4 5) none fun v12 => q_ob (q_getI p4.2 (.ref x0) 4 6) none fun v13 => q_ob (q_cV (q_call 38 [.ref v10, .int v11, .int v12, .int v13] p4.2)) none fun h14 => q_run 40 133 [(0, .ref x0)] [] h14 else if v5 = nI 114 then q_ob (q_getR p4.2 (.ref x0) 4 8) none fun v15 => q_ob (q_getI p4.2 (.ref x0) 4 4) none fun v16 => q_ob (q_getI p4.2 (.ref x0) 4 5) none fun v17 => q_ob (q_cV (q_call 34 [.ref v15, .int v16, .int v17] p4.2)) none fun h18 => q_run 40 133 [(0, .ref x0)] [] h18 else q_ob (q_getR p4.2 (.ref x0) 4 8) none fun v19 => q_ob (q_getI p4.2 (.ref x0) 4 4) none fun v20 => q_ob (q_cV (q_call 39 [.ref v19, .int v20] p4.2)) none fun h21 => q_run 40 133 [(0, .ref x0)] [] h21 else q_run 40 23 [] [] p4.2 := (q_run_un 40 [23, 133] 59 ..).trans rfl
set_option maxRecDepth 100000 in
theorem e_40_23  (σ : qH) : q_run 40 23 [] [] σ = some (some (.int (nI 0)), σ) := (q_run_un 40 [23, 133] 59 ..).trans rfl
set_option maxRecDepth 100000 in
theorem e_40_133 (x0 : Nat) (σ : qH) : q_run 40 133 [(0, .ref x0)] [] σ = q_ob (q_getI σ (.ref x0) 4 7) none fun v1 => q_ob (q_put σ (.ref x0) 4 7 0 (.int (v1 + (nI 1)))) none fun h2 => q_ob (q_put h2 (.ref x0) 4 2 3 (.int (nI 32))) none fun h3 => some (some (.int (nI 1)), h3) := (q_run_un 40 [23, 133] 59 ..).trans rfl
-- 41 X4_takesLetter
set_option maxRecDepth 100000 in
theorem e_41_0 (x0 : Nat) (x1 : Int32) (σ : qH) : q_run 41 0 [(0, .ref x0), (1, .int x1)] [] σ = q_ob (q_getI σ (.ref x0) 4 2) none fun v1 => if v1 = (nI 32) then q_ob (q_put σ (.ref x0) 4 2 3 (.int x1)) none fun h2 => q_ob (q_put h2 (.ref x0) 4 3 0 (.int (nI 0))) none fun h3 => if x1 = nI 100 then some (some (.int (nI 1)), h3) else if x1 = nI 102 then q_ob (q_getR h3 (.ref x0) 4 8) none fun v4 => q_ob (q_getI h3 (.ref v4) 3 1) none fun v5 => if (nI 5) ≤ v5 then some (some (.int (nI 0)), h3) else some (some (.int (nI 1)), h3) else if x1 = nI 110 then q_ob (q_getR h3 (.ref x0) 4 8) none fun v6 => q_ob (q_getI h3 (.ref v6) 3 3) none fun v7 => if v7 = nI 0 then some (some (.int (nI 1)), h3) else some (some (.int (nI 0)), h3) else if x1 = nI 114 then q_ob (q_getR h3 (.ref x0) 4 8) none fun v8 => q_ob (q_getI h3 (.ref v8) 3 0) none fun v9 => if (nI 5) ≤ v9 then some (some (.int (nI 0)), h3) else some (some (.int (nI 1)), h3) else some (some (.int (nI 0)), h3) else some (some (.int (nI 0)), σ) := (q_run_un 41 [] 46 ..).trans rfl
-- 42 X4_takes
set_option maxRecDepth 100000 in
theorem e_42_0 (x0 : Nat) (x1 : Int32) (σ : qH) : q_run 42 0 [(0, .ref x0), (1, .int x1)] [] σ = q_ob (q_cI (q_call 24 [.ref x0, .int x1] σ)) none fun p1 => if p1.1 = nI 0 then q_ob (q_cI (q_call 23 [.ref x0, .int x1] p1.2)) none fun p2 => if p2.1 = (nI 59) then q_ob (q_cI (q_call 40 [.ref x0] p2.2)) none fun p5 => q_bt (q_okv 4 (.int p5.1)) (some (some (.int p5.1), p5.2)) none else q_ob (q_cI (q_call 23 [.ref x0, .int x1] p2.2)) none fun p3 => q_ob (q_cI (q_call 41 [.ref x0, .int p3.1] p3.2)) none fun p4 => q_bt (q_okv 4 (.int p4.1)) (some (some (.int p4.1), p4.2)) none else q_ob (q_cI (q_call 26 [.ref x0, .int x1] p1.2)) none fun p6 => q_ob (q_cI (q_call 31 [.ref x0, .int p6.1] p6.2)) none fun p7 => q_bt (q_okv 4 (.int p7.1)) (some (some (.int p7.1), p7.2)) none := (q_run_un 42 [] 26 ..).trans rfl
-- 43 X4_readAll
set_option maxRecDepth 100000 in
theorem e_43_0 (x0 : Nat) (σ : qH) : q_run 43 0 [(0, .ref x0)] [] σ = q_run 43 2 [(0, .ref x0), (1, .int (nI 0))] [] σ := (q_run_un 43 [2, 28] 29 ..).trans rfl
set_option maxRecDepth 100000 in
theorem e_43_2 (x0 : Nat) (x1 : Int32) (σ : qH) : q_run 43 2 [(0, .ref x0), (1, .int x1)] [] σ = q_ob (q_getI σ (.ref x0) 4 1) none fun v1 => if v1 ≤ x1 then q_ob (q_getI σ (.ref x0) 4 2) none fun v2 => if v2 = (nI 32) then some (some (.int (-1 : Int32)), σ) else q_ob (q_getI σ (.ref x0) 4 1) none fun v3 => some (some (.int v3), σ) else q_ob (q_cI (q_call 25 [.ref x0, .int x1] σ)) none fun p4 => if p4.1 = nI 0 then q_run 43 28 [(0, .ref x0), (1, .int x1)] [] p4.2 else q_ob (q_cI (q_call 42 [.ref x0, .int x1] p4.2)) none fun p5 => if p5.1 = nI 0 then some (some (.int x1), p5.2) else q_run 43 28 [(0, .ref x0), (1, .int x1)] [] p5.2 := (q_run_un 43 [2, 28] 29 ..).trans rfl
set_option maxRecDepth 100000 in
theorem e_43_28 (x0 : Nat) (x1 : Int32) (σ : qH) : q_run 43 28 [(0, .ref x0), (1, .int x1)] [] σ = q_run 43 2 [(0, .ref x0), (1, .int (x1 + (nI 1)))] [] σ := (q_run_un 43 [2, 28] 29 ..).trans rfl
-- 44 X0_begin
set_option maxRecDepth 100000 in
theorem e_44_0 (x0 : Nat) (x1 : Nat) (σ : qH) : q_run 44 0 [(0, .ref x0), (1, .ref x1)] [] σ = q_ob (q_getI σ (.ref x1) 3 7) none fun v1 => q_ob (q_put σ (.ref x0) 0 0 0 (.int v1)) none fun h2 => q_ob (q_getL h2 (.ref x1) 3 5) none fun v3 => q_ob (q_put h2 (.ref x0) 0 1 1 (.long v3)) none fun h4 => q_ob (q_put h4 (.ref x0) 0 2 1 (.long (lN 0))) none fun h5 => q_ob (q_put h5 (.ref x0) 0 3 1 (.long (lN 0))) none fun h6 => q_ob (q_put h6 (.ref x0) 0 4 0 (.int (nI 0))) none fun h7 => q_ob (q_put h7 (.ref x0) 0 5 0 (.int (nI 0))) none fun h8 => some (none, h8) := (q_run_un 44 [] 23 ..).trans rfl
-- 45 X2_lose
set_option maxRecDepth 100000 in
theorem e_45_0 (x0 : Nat) (σ : qH) : q_run 45 0 [(0, .ref x0)] [] σ = q_ob (q_put σ (.ref x0) 2 2 0 (.int (nI 0))) none fun h1 => some (none, h1) := (q_run_un 45 [] 6 ..).trans rfl
-- 46 X1_lose
set_option maxRecDepth 100000 in
theorem e_46_0 (x0 : Nat) (σ : qH) : q_run 46 0 [(0, .ref x0)] [] σ = q_ob (q_put σ (.ref x0) 1 3 0 (.int (nI 0))) none fun h1 => some (none, h1) := (q_run_un 46 [] 6 ..).trans rfl
-- 47 X6_house
set_option maxRecDepth 100000 in
theorem e_47_0 (x0 : Nat) (σ : qH) : q_run 47 0 [(0, .ref x0)] [] σ = q_ob (q_getR (q_new σ (.inl (4, q_dfl 4)) 9) (.ref x0) 6 0) none fun v1 => q_ob (q_getI (q_new σ (.inl (4, q_dfl 4)) 9) (.ref x0) 6 1) none fun v2 => q_ob (q_cV (q_call 22 [.ref σ.2.1, .ref v1, .int v2] (q_new σ (.inl (4, q_dfl 4)) 9))) none fun h3 => q_ob (q_cI (q_call 43 [.ref σ.2.1] h3)) none fun p4 => if p4.1 < nI 0 then q_ob (q_put p4.2 (.ref x0) 6 1 0 (.int (nI 0))) none fun h5 => q_ob (q_getR h5 (.ref σ.2.1) 4 8) none fun v6 => q_ob (q_put h5 (.ref x0) 6 2 2 (.ref v6)) none fun h7 => q_ob (q_getR h7 (.ref x0) 6 3) none fun v8 => q_ob (q_getR h7 (.ref x0) 6 2) none fun v9 => q_ob (q_cV (q_call 44 [.ref v8, .ref v9] h7)) none fun h10 => q_ob (q_getR h10 (.ref x0) 6 5) none fun v11 => q_ob (q_cV (q_call 45 [.ref v11] h10)) none fun h12 => q_ob (q_put h12 (.ref x0) 6 7 0 (.int (nI 0))) none fun h13 => q_ob (q_getR h13 (.ref x0) 6 8) none fun v14 => q_ob (q_cV (q_call 46 [.ref v14] h13)) none fun h15 => q_ob (q_getI h15 (.ref σ.2.1) 4 7) none fun v16 => some (some (.int v16), h15) else some (some (.int ((-10 : Int32) - p4.1)), p4.2) := (q_run_un 47 [] 43 ..).trans rfl
-- 48 X7_house
set_option maxRecDepth 100000 in
theorem e_48_0 (x0 : Nat) (σ : qH) : q_run 48 0 [(0, .ref x0)] [] σ = q_ob (q_cI (q_call 15 [.ref x0] σ)) none fun p1 => if p1.1 = nI 0 then q_ob (q_getI p1.2 (.ref x0) 7 14) none fun v6 => some (some (.int ((-10 : Int32) - v6)), p1.2) else q_ob (q_cV (q_call 16 [.ref x0] p1.2)) none fun h2 => q_ob (q_put h2 (.ref x0) 7 2 0 (.int (nI 0))) none fun h3 => q_ob (q_getR h3 (.ref x0) 7 3) none fun v4 => q_ob (q_aldI h3 (.ref v4) 1 (nI 3)) none fun v5 => some (some (.int v5), h3) := (q_run_un 48 [] 20 ..).trans rfl
-- 49 X6_spot
set_option maxRecDepth 100000 in
theorem e_49_0 (x0 : Int32) (x1 : Int32) (σ : qH) : q_run 49 0 [(0, .int x0), (1, .int x1)] [] σ = some (some (.int ((x0 >>> (((nI 3) * ((nI 4) - x1)) &&& 31)) &&& (nI 7))), σ) := (q_run_un 49 [] 12 ..).trans rfl
-- 50 X3_flocksIn
set_option maxRecDepth 100000 in
theorem e_50_0 (x0 : Nat) (x1 : Int32) (x2 : Int32) (σ : qH) : q_run 50 0 [(0, .ref x0), (1, .int x1), (2, .int x2)] [] σ = q_run 50 5 [(0, .ref x0), (1, .int x1), (2, .int x2), (3, .int (nI 0)), (4, .int (nI 0))] [] σ := (q_run_un 50 [5, 31] 25 ..).trans rfl
set_option maxRecDepth 100000 in
theorem e_50_5 (x0 : Nat) (x1 : Int32) (x2 : Int32) (x3 : Int32) (x4 : Int32) (σ : qH) : q_run 50 5 [(0, .ref x0), (1, .int x1), (2, .int x2), (3, .int x3), (4, .int x4)] [] σ = q_ob (q_getI σ (.ref x0) 3 1) none fun v1 => if v1 ≤ x4 then some (some (.int x3), σ) else q_ob (q_cI (q_call 49 [.int x1, .int x4] σ)) none fun p2 => if p2.1 = x2 then q_run 50 31 [(0, .ref x0), (1, .int x1), (2, .int x2), (3, .int (x3 ||| ((nI 1) <<< (x4 &&& 31)))), (4, .int x4)] [] p2.2 else q_run 50 31 [(0, .ref x0), (1, .int x1), (2, .int x2), (3, .int x3), (4, .int x4)] [] p2.2 := (q_run_un 50 [5, 31] 25 ..).trans rfl
set_option maxRecDepth 100000 in
theorem e_50_31 (x0 : Nat) (x1 : Int32) (x2 : Int32) (x3 : Int32) (x4 : Int32) (σ : qH) : q_run 50 31 [(0, .ref x0), (1, .int x1), (2, .int x2), (3, .int x3), (4, .int x4)] [] σ = q_run 50 5 [(0, .ref x0), (1, .int x1), (2, .int x2), (3, .int x3), (4, .int (x4 + (nI 1)))] [] σ := (q_run_un 50 [5, 31] 25 ..).trans rfl
-- 51 X0_become
set_option maxRecDepth 100000 in
theorem e_51_0 (x0 : Nat) (x1 : Nat) (σ : qH) : q_run 51 0 [(0, .ref x0), (1, .ref x1)] [] σ = q_ob (q_getI σ (.ref x1) 0 0) none fun v1 => q_ob (q_put σ (.ref x0) 0 0 0 (.int v1)) none fun h2 => q_ob (q_getL h2 (.ref x1) 0 1) none fun v3 => q_ob (q_put h2 (.ref x0) 0 1 1 (.long v3)) none fun h4 => q_ob (q_getL h4 (.ref x1) 0 2) none fun v5 => q_ob (q_put h4 (.ref x0) 0 2 1 (.long v5)) none fun h6 => q_ob (q_getL h6 (.ref x1) 0 3) none fun v7 => q_ob (q_put h6 (.ref x0) 0 3 1 (.long v7)) none fun h8 => q_ob (q_getI h8 (.ref x1) 0 4) none fun v9 => q_ob (q_put h8 (.ref x0) 0 4 0 (.int v9)) none fun h10 => q_ob (q_getI h10 (.ref x1) 0 5) none fun v11 => q_ob (q_put h10 (.ref x0) 0 5 0 (.int v11)) none fun h12 => some (none, h12) := (q_run_un 51 [] 27 ..).trans rfl
-- 52 X6_has
set_option maxRecDepth 100000 in
theorem e_52_0 (x0 : Int32) (x1 : Int32) (σ : qH) : q_run 52 0 [(0, .int x0), (1, .int x1)] [] σ = if ((x0 >>> (x1 &&& 31)) &&& (nI 1)) = (nI 1) then some (some (.int (nI 1)), σ) else some (some (.int (nI 0)), σ) := (q_run_un 52 [] 13 ..).trans rfl
-- 53 X0_graze
set_option maxRecDepth 100000 in
theorem e_53_0 (x0 : Nat) (x1 : Nat) (x2 : Int32) (x3 : Int32) (σ : qH) : q_run 53 0 [(0, .ref x0), (1, .ref x1), (2, .int x2), (3, .int x3)] [] σ = q_ob (q_getL σ (.ref x0) 0 1) none fun v1 => q_ob (q_cI (q_call 35 [.long v1, .int x3] σ)) none fun p2 => q_ob (q_getL p2.2 (.ref x1) 3 8) none fun v3 => q_ob (q_cI (q_call 35 [.long v3, .int x2] p2.2)) none fun p4 => q_ob (q_getL p4.2 (.ref x0) 0 2) none fun v5 => q_ob (q_cI (q_call 35 [.long v5, .int x2] p4.2)) none fun p6 => q_ob (q_getI p6.2 (.ref x1) 3 2) none fun v7 => if (nI 1) ≤ v7 then q_ob (q_getI p6.2 (.ref x1) 3 2) none fun v8 => if v8 = nI 0 then none else q_run 53 57 [(0, .ref x0), (1, .ref x1), (2, .int x2), (3, .int x3), (4, .int p2.1), (5, .int (q_min p4.1 p2.1)), (6, .int (p6.1 + (q_min p4.1 p2.1)))] [.int ((p6.1 + (q_min p4.1 p2.1)) / v8)] p6.2 else q_run 53 57 [(0, .ref x0), (1, .ref x1), (2, .int x2), (3, .int x3), (4, .int p2.1), (5, .int (q_min p4.1 p2.1)), (6, .int (p6.1 + (q_min p4.1 p2.1)))] [.int (nI 0)] p6.2 := (q_run_un 53 [57] 69 ..).trans rfl
set_option maxRecDepth 100000 in
theorem e_53_57 (x0 : Nat) (x1 : Nat) (x2 : Int32) (x3 : Int32) (x4 : Int32) (x5 : Int32) (x6 : Int32) (s0 : Int32) (σ : qH) : q_run 53 57 [(0, .ref x0), (1, .ref x1), (2, .int x2), (3, .int x3), (4, .int x4), (5, .int x5), (6, .int x6)] [.int s0] σ = q_ob (q_getL σ (.ref x0) 0 1) none fun v1 => q_ob (q_cL (q_call 33 [.long v1, .int x3, .int (x4 - x5)] σ)) none fun p2 => q_ob (q_put p2.2 (.ref x0) 0 1 1 (.long p2.1)) none fun h3 => q_ob (q_getL h3 (.ref x0) 0 2) none fun v4 => q_ob (q_getI h3 (.ref x1) 3 2) none fun v5 => q_ob (q_cL (q_call 33 [.long v4, .int x2, .int (x6 - (s0 * v5))] h3)) none fun p6 => q_ob (q_put p6.2 (.ref x0) 0 2 1 (.long p6.1)) none fun h7 => q_ob (q_getL h7 (.ref x0) 0 3) none fun v8 => q_ob (q_getL h7 (.ref x0) 0 3) none fun v9 => q_ob (q_cI (q_call 35 [.long v9, .int x2] h7)) none fun p10 => q_ob (q_cL (q_call 33 [.long v8, .int x2, .int (q_min (nI 99) (p10.1 + s0))] p10.2)) none fun p11 => q_ob (q_put p11.2 (.ref x0) 0 3 1 (.long p11.1)) none fun h12 => some (some (.int x5), h12) := (q_run_un 53 [57] 69 ..).trans rfl
-- 54 X3_openRooms
set_option maxRecDepth 100000 in
theorem e_54_0 (x0 : Nat) (x1 : Int32) (x2 : Int32) (σ : qH) : q_run 54 0 [(0, .ref x0), (1, .int x1), (2, .int x2)] [] σ = q_run 54 5 [(0, .ref x0), (1, .int x1), (2, .int x2), (3, .long (lN 0)), (5, .int (nI 0))] [] σ := (q_run_un 54 [5, 40, 85] 52 ..).trans rfl
set_option maxRecDepth 100000 in
theorem e_54_5 (x0 : Nat) (x1 : Int32) (x2 : Int32) (x3 : Int64) (x5 : Int32) (σ : qH) : q_run 54 5 [(0, .ref x0), (1, .int x1), (2, .int x2), (3, .long x3), (5, .int x5)] [] σ = q_ob (q_getI σ (.ref x0) 3 1) none fun v1 => if v1 ≤ x5 then q_run 54 40 [(0, .ref x0), (2, .int x2), (3, .long x3), (5, .int (nI 0)), (6, .int (nI 0))] [] σ else q_ob (q_cI (q_call 49 [.int x1, .int x5] σ)) none fun p2 => q_run 54 5 [(0, .ref x0), (1, .int x1), (2, .int x2), (3, .long (x3 + ((lN 1) <<< (Int32.toInt64 ((nI 8) * p2.1) &&& 63)))), (5, .int (x5 + (nI 1)))] [] p2.2 := (q_run_un 54 [5, 40, 85] 52 ..).trans rfl
set_option maxRecDepth 100000 in
theorem e_54_40 (x0 : Nat) (x2 : Int32) (x3 : Int64) (x5 : Int32) (x6 : Int32) (σ : qH) : q_run 54 40 [(0, .ref x0), (2, .int x2), (3, .long x3), (5, .int x5), (6, .int x6)] [] σ = q_ob (q_getI σ (.ref x0) 3 0) none fun v1 => if v1 ≤ x6 then some (some (.int x5), σ) else q_ob (q_cI (q_call 52 [.int x2, .int x6] σ)) none fun p2 => if p2.1 = nI 0 then q_ob (q_cI (q_call 35 [.long x3, .int x6] p2.2)) none fun p3 => q_ob (q_getL p3.2 (.ref x0) 3 4) none fun v4 => q_ob (q_cI (q_call 35 [.long v4, .int x6] p3.2)) none fun p5 => if p5.1 ≤ p3.1 then q_run 54 85 [(0, .ref x0), (2, .int x2), (3, .long x3), (5, .int x5), (6, .int x6)] [] p5.2 else q_run 54 85 [(0, .ref x0), (2, .int x2), (3, .long x3), (5, .int (x5 ||| ((nI 1) <<< (x6 &&& 31)))), (6, .int x6)] [] p5.2 else q_run 54 85 [(0, .ref x0), (2, .int x2), (3, .long x3), (5, .int x5), (6, .int x6)] [] p2.2 := (q_run_un 54 [5, 40, 85] 52 ..).trans rfl
set_option maxRecDepth 100000 in
theorem e_54_85 (x0 : Nat) (x2 : Int32) (x3 : Int64) (x5 : Int32) (x6 : Int32) (σ : qH) : q_run 54 85 [(0, .ref x0), (2, .int x2), (3, .long x3), (5, .int x5), (6, .int x6)] [] σ = q_run 54 40 [(0, .ref x0), (2, .int x2), (3, .long x3), (5, .int x5), (6, .int (x6 + (nI 1)))] [] σ := (q_run_un 54 [5, 40, 85] 52 ..).trans rfl
-- 55 X0_carpeted
set_option maxRecDepth 100000 in
theorem e_55_0 (x0 : Nat) (σ : qH) : q_run 55 0 [(0, .ref x0)] [] σ = q_run 55 4 [(0, .ref x0), (1, .int (nI 0)), (2, .int (nI 0))] [] σ := (q_run_un 55 [4, 26] 24 ..).trans rfl
set_option maxRecDepth 100000 in
theorem e_55_4 (x0 : Nat) (x1 : Int32) (x2 : Int32) (σ : qH) : q_run 55 4 [(0, .ref x0), (1, .int x1), (2, .int x2)] [] σ = if (nI 5) ≤ x2 then some (some (.int x1), σ) else q_ob (q_getL σ (.ref x0) 0 1) none fun v1 => q_ob (q_cI (q_call 35 [.long v1, .int x2] σ)) none fun p2 => if p2.1 ≤ nI 0 then q_run 55 26 [(0, .ref x0), (1, .int x1), (2, .int x2)] [] p2.2 else q_run 55 26 [(0, .ref x0), (1, .int (x1 ||| ((nI 1) <<< (x2 &&& 31)))), (2, .int x2)] [] p2.2 := (q_run_un 55 [4, 26] 24 ..).trans rfl
set_option maxRecDepth 100000 in
theorem e_55_26 (x0 : Nat) (x1 : Int32) (x2 : Int32) (σ : qH) : q_run 55 26 [(0, .ref x0), (1, .int x1), (2, .int x2)] [] σ = q_run 55 4 [(0, .ref x0), (1, .int x1), (2, .int (x2 + (nI 1)))] [] σ := (q_run_un 55 [4, 26] 24 ..).trans rfl
-- 56 X6_lowest
set_option maxRecDepth 100000 in
theorem e_56_0 (x0 : Int32) (σ : qH) : q_run 56 0 [(0, .int x0)] [] σ = q_run 56 2 [(0, .int x0), (1, .int (nI 0))] [] σ := (q_run_un 56 [2] 17 ..).trans rfl
set_option maxRecDepth 100000 in
theorem e_56_2 (x0 : Int32) (x1 : Int32) (σ : qH) : q_run 56 2 [(0, .int x0), (1, .int x1)] [] σ = if (nI 5) ≤ x1 then some (some (.int (-9 : Int32)), σ) else q_ob (q_cI (q_call 52 [.int x0, .int x1] σ)) none fun p1 => if p1.1 = nI 0 then q_run 56 2 [(0, .int x0), (1, .int (x1 + (nI 1)))] [] p1.2 else some (some (.int x1), p1.2) := (q_run_un 56 [2] 17 ..).trans rfl
-- 57 X0_act
set_option maxRecDepth 100000 in
theorem e_57_0 (x0 : Nat) (x1 : Nat) (x2 : Int32) (σ : qH) : q_run 57 0 [(0, .ref x0), (1, .ref x1), (2, .int x2)] [] σ = q_ob (q_getI σ (.ref x0) 0 0) none fun v1 => q_ob (q_cI (q_call 49 [.int v1, .int x2] σ)) none fun p2 => q_ob (q_getI p2.2 (.ref x0) 0 4) none fun v3 => q_ob (q_cI (q_call 52 [.int v3, .int p2.1] p2.2)) none fun p4 => if p4.1 = nI 0 then q_ob (q_getL p4.2 (.ref x0) 0 1) none fun v5 => q_ob (q_cI (q_call 35 [.long v5, .int p2.1] p4.2)) none fun p6 => if p6.1 ≤ nI 0 then q_run 57 43 [(0, .ref x0), (1, .ref x1), (2, .int x2), (3, .int p2.1), (4, .int p4.1)] [] p6.2 else q_ob (q_cI (q_call 53 [.ref x0, .ref x1, .int x2, .int p2.1] p6.2)) none fun p7 => some (some (.int p7.1), p7.2) else q_run 57 43 [(0, .ref x0), (1, .ref x1), (2, .int x2), (3, .int p2.1), (4, .int p4.1)] [] p4.2 := (q_run_un 57 [43, 80, 102] 56 ..).trans rfl
set_option maxRecDepth 100000 in
theorem e_57_43 (x0 : Nat) (x1 : Nat) (x2 : Int32) (x3 : Int32) (x4 : Int32) (σ : qH) : q_run 57 43 [(0, .ref x0), (1, .ref x1), (2, .int x2), (3, .int x3), (4, .int x4)] [] σ = q_ob (q_getL σ (.ref x1) 3 6) none fun v1 => q_ob (q_cI (q_call 35 [.long v1, .int x3] σ)) none fun p2 => q_ob (q_getI p2.2 (.ref x0) 0 0) none fun v3 => q_ob (q_getI p2.2 (.ref x0) 0 4) none fun v4 => q_ob (q_cI (q_call 54 [.ref x1, .int v3, .int v4] p2.2)) none fun p5 => if x4 = nI 0 then q_ob (q_cI (q_call 55 [.ref x0] p5.2)) none fun p6 => q_run 57 80 [(0, .ref x0), (2, .int x2), (5, .int ((p2.1 &&& p5.1) &&& p6.1))] [] p6.2 else q_run 57 80 [(0, .ref x0), (2, .int x2), (5, .int (p2.1 &&& p5.1))] [] p5.2 := (q_run_un 57 [43, 80, 102] 56 ..).trans rfl
set_option maxRecDepth 100000 in
theorem e_57_80 (x0 : Nat) (x2 : Int32) (x5 : Int32) (σ : qH) : q_run 57 80 [(0, .ref x0), (2, .int x2), (5, .int x5)] [] σ = if x5 = nI 0 then q_run 57 102 [] [] σ else q_ob (q_getI σ (.ref x0) 0 0) none fun v1 => q_ob (q_cI (q_call 56 [.int x5] σ)) none fun p2 => q_ob (q_cI (q_call 37 [.int v1, .int x2, .int p2.1] p2.2)) none fun p3 => q_ob (q_put p3.2 (.ref x0) 0 0 0 (.int p3.1)) none fun h4 => q_run 57 102 [] [] h4 := (q_run_un 57 [43, 80, 102] 56 ..).trans rfl
set_option maxRecDepth 100000 in
theorem e_57_102  (σ : qH) : q_run 57 102 [] [] σ = some (some (.int (nI 0)), σ) := (q_run_un 57 [43, 80, 102] 56 ..).trans rfl
-- 58 X0_pass
set_option maxRecDepth 100000 in
theorem e_58_0 (x0 : Nat) (x1 : Nat) (σ : qH) : q_run 58 0 [(0, .ref x0), (1, .ref x1)] [] σ = q_run 58 4 [(0, .ref x0), (1, .ref x1), (2, .int (nI 0)), (3, .int (nI 0))] [] σ := (q_run_un 58 [4] 21 ..).trans rfl
set_option maxRecDepth 100000 in
theorem e_58_4 (x0 : Nat) (x1 : Nat) (x2 : Int32) (x3 : Int32) (σ : qH) : q_run 58 4 [(0, .ref x0), (1, .ref x1), (2, .int x2), (3, .int x3)] [] σ = q_ob (q_getI σ (.ref x1) 3 1) none fun v1 => if v1 ≤ x3 then some (some (.int x2), σ) else q_ob (q_cI (q_call 57 [.ref x0, .ref x1, .int x3] σ)) none fun p2 => q_run 58 4 [(0, .ref x0), (1, .ref x1), (2, .int (x2 + p2.1)), (3, .int (x3 + (nI 1)))] [] p2.2 := (q_run_un 58 [4] 21 ..).trans rfl
-- 59 X6_stepsTillBare
set_option maxRecDepth 100000 in
theorem e_59_0 (x0 : Nat) (x1 : Int32) (σ : qH) : q_run 59 0 [(0, .ref x0), (1, .int x1)] [] σ = q_ob (q_getR σ (.ref x0) 6 4) none fun v1 => q_ob (q_getR σ (.ref x0) 6 3) none fun v2 => q_ob (q_cV (q_call 51 [.ref v1, .ref v2] σ)) none fun h3 => q_run 59 13 [(0, .ref x0), (1, .int x1), (2, .int (nI 0))] [] h3 := (q_run_un 59 [13] 30 ..).trans rfl
set_option maxRecDepth 100000 in
theorem e_59_13 (x0 : Nat) (x1 : Int32) (x2 : Int32) (σ : qH) : q_run 59 13 [(0, .ref x0), (1, .int x1), (2, .int x2)] [] σ = if (nI 60) < x2 then some (some (.int (-9 : Int32)), σ) else q_ob (q_getR σ (.ref x0) 6 4) none fun v1 => q_ob (q_getL σ (.ref v1) 0 1) none fun v2 => q_ob (q_cI (q_call 35 [.long v2, .int x1] σ)) none fun p3 => if p3.1 = nI 0 then some (some (.int x2), p3.2) else q_ob (q_getR p3.2 (.ref x0) 6 4) none fun v4 => q_ob (q_getR p3.2 (.ref x0) 6 2) none fun v5 => q_ob (q_cI (q_call 58 [.ref v4, .ref v5] p3.2)) none fun p6 => q_run 59 13 [(0, .ref x0), (1, .int x1), (2, .int (x2 + (nI 1)))] [] p6.2 := (q_run_un 59 [13] 30 ..).trans rfl
-- 60 X6_room
set_option maxRecDepth 100000 in
theorem e_60_0 (x0 : Nat) (x1 : Int32) (x2 : Int32) (σ : qH) : q_run 60 0 [(0, .ref x0), (1, .int x1), (2, .int x2)] [] σ = q_ob (q_getR σ (.ref x0) 6 2) none fun v1 => q_ob (q_cI (q_call 28 [.ref v1, .int x1] σ)) none fun p2 => if p2.1 = nI 0 then some (some (.int (-1 : Int32)), p2.2) else if x2 = nI 0 then q_ob (q_getR p2.2 (.ref x0) 6 2) none fun v3 => q_ob (q_getL p2.2 (.ref v3) 3 4) none fun v4 => q_ob (q_cI (q_call 35 [.long v4, .int x1] p2.2)) none fun p5 => some (some (.int p5.1), p5.2) else if x2 = nI 1 then q_ob (q_getR p2.2 (.ref x0) 6 3) none fun v6 => q_ob (q_getL p2.2 (.ref v6) 0 1) none fun v7 => q_ob (q_cI (q_call 35 [.long v7, .int x1] p2.2)) none fun p8 => some (some (.int p8.1), p8.2) else if x2 = nI 2 then q_ob (q_getR p2.2 (.ref x0) 6 2) none fun v9 => q_ob (q_getL p2.2 (.ref v9) 3 6) none fun v10 => q_ob (q_cI (q_call 35 [.long v10, .int x1] p2.2)) none fun p11 => some (some (.int p11.1), p11.2) else if x2 = nI 3 then q_ob (q_getR p2.2 (.ref x0) 6 2) none fun v12 => q_ob (q_getR p2.2 (.ref x0) 6 3) none fun v13 => q_ob (q_getI p2.2 (.ref v13) 0 0) none fun v14 => q_ob (q_cI (q_call 50 [.ref v12, .int v14, .int x1] p2.2)) none fun p15 => some (some (.int p15.1), p15.2) else if x2 = nI 4 then q_ob (q_getR p2.2 (.ref x0) 6 3) none fun v16 => q_ob (q_getI p2.2 (.ref v16) 0 4) none fun v17 => some (some (.int ((v17 >>> (x1 &&& 31)) &&& (nI 1))), p2.2) else if x2 = nI 5 then q_ob (q_cI (q_call 59 [.ref x0, .int x1] p2.2)) none fun p18 => some (some (.int p18.1), p18.2) else some (some (.int (-1 : Int32)), p2.2) := (q_run_un 60 [] 51 ..).trans rfl
-- 61 X7_isRoom
set_option maxRecDepth 100000 in
theorem e_61_0 (x0 : Nat) (x1 : Int32) (σ : qH) : q_run 61 0 [(0, .ref x0), (1, .int x1)] [] σ = q_ob (q_getR σ (.ref x0) 7 3) none fun v1 => q_ob (q_aldI σ (.ref v1) 1 (nI 0)) none fun v2 => q_ob (q_cI (q_call 8 [.int x1, .int (nI 0), .int (v2 - (nI 1))] σ)) none fun p3 => q_bt (q_okv 4 (.int p3.1)) (some (some (.int p3.1), p3.2)) none := (q_run_un 61 [] 12 ..).trans rfl
-- 62 X7_inRoom
set_option maxRecDepth 100000 in
theorem e_62_0 (x0 : Nat) (x1 : Int32) (σ : qH) : q_run 62 0 [(0, .ref x0), (1, .int x1)] [] σ = q_run 62 4 [(0, .ref x0), (1, .int x1), (2, .int (nI 0)), (3, .int (nI 0))] [] σ := (q_run_un 62 [4, 32] 30 ..).trans rfl
set_option maxRecDepth 100000 in
theorem e_62_4 (x0 : Nat) (x1 : Int32) (x2 : Int32) (x3 : Int32) (σ : qH) : q_run 62 4 [(0, .ref x0), (1, .int x1), (2, .int x2), (3, .int x3)] [] σ = q_ob (q_getR σ (.ref x0) 7 3) none fun v1 => q_ob (q_aldI σ (.ref v1) 1 (nI 1)) none fun v2 => if v2 ≤ x3 then some (some (.int x2), σ) else q_ob (q_getR σ (.ref x0) 7 5) none fun v3 => q_ob (q_aldI σ (.ref v3) 1 x3) none fun v4 => if v4 = x1 then q_run 62 32 [(0, .ref x0), (1, .int x1), (3, .int x3)] [.int ((nI 1) <<< (x3 &&& 31)), .int x2] σ else q_run 62 32 [(0, .ref x0), (1, .int x1), (3, .int x3)] [.int (nI 0), .int x2] σ := (q_run_un 62 [4, 32] 30 ..).trans rfl
set_option maxRecDepth 100000 in
theorem e_62_32 (x0 : Nat) (x1 : Int32) (x3 : Int32) (s0 : Int32) (s1 : Int32) (σ : qH) : q_run 62 32 [(0, .ref x0), (1, .int x1), (3, .int x3)] [.int s0, .int s1] σ = q_run 62 4 [(0, .ref x0), (1, .int x1), (2, .int (s1 ||| s0)), (3, .int (x3 + (nI 1)))] [] σ := (q_run_un 62 [4, 32] 30 ..).trans rfl
-- 63 X7_holds
set_option maxRecDepth 100000 in
theorem e_63_0 (x0 : Nat) (σ : qH) : q_run 63 0 [(0, .ref x0)] [] σ = q_run 63 2 [(0, .ref x0), (1, .int (nI 0))] [] σ := (q_run_un 63 [2] 18 ..).trans rfl
set_option maxRecDepth 100000 in
theorem e_63_2 (x0 : Nat) (x1 : Int32) (σ : qH) : q_run 63 2 [(0, .ref x0), (1, .int x1)] [] σ = if (nI 22) ≤ x1 then some (none, σ) else q_ob (q_getR σ (.ref x0) 7 16) none fun v1 => q_ob (q_getR σ (.ref x0) 7 5) none fun v2 => q_ob (q_aldI σ (.ref v2) 1 x1) none fun v3 => q_ob (q_astI σ (.ref v1) 1 x1 v3) none fun h4 => q_run 63 2 [(0, .ref x0), (1, .int (x1 + (nI 1)))] [] h4 := (q_run_un 63 [2] 18 ..).trans rfl
-- 64 X7_has
set_option maxRecDepth 100000 in
theorem e_64_0 (x0 : Int32) (x1 : Int32) (σ : qH) : q_run 64 0 [(0, .int x0), (1, .int x1)] [] σ = if ((x0 >>> (x1 &&& 31)) &&& (nI 1)) = (nI 1) then some (some (.int (nI 1)), σ) else some (some (.int (nI 0)), σ) := (q_run_un 64 [] 13 ..).trans rfl
-- 65 X7_ones
set_option maxRecDepth 100000 in
theorem e_65_0 (x0 : Int32) (σ : qH) : q_run 65 0 [(0, .int x0)] [] σ = q_run 65 4 [(0, .int x0), (1, .int (nI 0)), (2, .int (nI 0))] [] σ := (q_run_un 65 [4] 21 ..).trans rfl
set_option maxRecDepth 100000 in
theorem e_65_4 (x0 : Int32) (x1 : Int32) (x2 : Int32) (σ : qH) : q_run 65 4 [(0, .int x0), (1, .int x1), (2, .int x2)] [] σ = if (nI 5) ≤ x2 then some (some (.int x1), σ) else q_run 65 4 [(0, .int x0), (1, .int (x1 + ((x0 >>> (x2 &&& 31)) &&& (nI 1)))), (2, .int (x2 + (nI 1)))] [] σ := (q_run_un 65 [4] 21 ..).trans rfl
-- 66 X7_beyond
set_option maxRecDepth 100000 in
theorem e_66_0 (x0 : Nat) (x1 : Int32) (x2 : Int32) (σ : qH) : q_run 66 0 [(0, .ref x0), (1, .int x1), (2, .int x2)] [] σ = q_ob (q_getR σ (.ref x0) 7 3) none fun v1 => q_ob (q_aldI σ (.ref v1) 1 (nI 0)) none fun v2 => q_run 66 13 [(0, .ref x0), (1, .int x1), (2, .int x2), (3, .int (-9 : Int32)), (4, .int (v2 - (nI 1)))] [] σ := (q_run_un 66 [13, 75, 76, 100, 105, 106] 63 ..).trans rfl
set_option maxRecDepth 100000 in
theorem e_66_13 (x0 : Nat) (x1 : Int32) (x2 : Int32) (x3 : Int32) (x4 : Int32) (σ : qH) : q_run 66 13 [(0, .ref x0), (1, .int x1), (2, .int x2), (3, .int x3), (4, .int x4)] [] σ = if x4 < nI 0 then some (some (.int x3), σ) else q_ob (q_getR σ (.ref x0) 7 3) none fun v1 => q_ob (q_aldI σ (.ref v1) 1 ((nI 15) + x1)) none fun v2 => q_ob (q_cI (q_call 64 [.int v2, .int x4] σ)) none fun p3 => if p3.1 = nI 0 then q_run 66 75 [(0, .ref x0), (1, .int x1), (2, .int x2), (3, .int x3), (4, .int x4)] [] p3.2 else q_ob (q_getR p3.2 (.ref x0) 7 5) none fun v4 => q_ob (q_aldI p3.2 (.ref v4) 1 (nI 20)) none fun v5 => q_ob (q_cI (q_call 64 [.int v5, .int x4] p3.2)) none fun p6 => if p6.1 = nI 0 then q_ob (q_cI (q_call 62 [.ref x0, .int x4] p6.2)) none fun p7 => q_ob (q_cI (q_call 65 [.int p7.1] p7.2)) none fun p8 => q_ob (q_getR p8.2 (.ref x0) 7 3) none fun v9 => q_ob (q_aldI p8.2 (.ref v9) 1 ((nI 5) + x4)) none fun v10 => if v10 ≤ p8.1 then q_run 66 75 [(0, .ref x0), (1, .int x1), (2, .int x2), (3, .int x3), (4, .int x4)] [] p8.2 else q_run 66 76 [(0, .ref x0), (1, .int x1), (2, .int x2), (3, .int x3), (4, .int x4)] [.int (nI 1)] p8.2 else q_run 66 75 [(0, .ref x0), (1, .int x1), (2, .int x2), (3, .int x3), (4, .int x4)] [] p6.2 := (q_run_un 66 [13, 75, 76, 100, 105, 106] 63 ..).trans rfl
set_option maxRecDepth 100000 in
theorem e_66_75 (x0 : Nat) (x1 : Int32) (x2 : Int32) (x3 : Int32) (x4 : Int32) (σ : qH) : q_run 66 75 [(0, .ref x0), (1, .int x1), (2, .int x2), (3, .int x3), (4, .int x4)] [] σ = q_run 66 76 [(0, .ref x0), (1, .int x1), (2, .int x2), (3, .int x3), (4, .int x4)] [.int (nI 0)] σ := (q_run_un 66 [13, 75, 76, 100, 105, 106] 63 ..).trans rfl
set_option maxRecDepth 100000 in
theorem e_66_76 (x0 : Nat) (x1 : Int32) (x2 : Int32) (x3 : Int32) (x4 : Int32) (s0 : Int32) (σ : qH) : q_run 66 76 [(0, .ref x0), (1, .int x1), (2, .int x2), (3, .int x3), (4, .int x4)] [.int s0] σ = if s0 = nI 0 then q_run 66 105 [(0, .ref x0), (1, .int x1), (2, .int x2), (3, .int x3), (4, .int x4)] [] σ else if x2 = nI 0 then q_run 66 100 [(0, .ref x0), (1, .int x1), (2, .int x2), (4, .int x4)] [] σ else q_ob (q_getR σ (.ref x0) 7 5) none fun v1 => q_ob (q_aldI σ (.ref v1) 1 ((nI 15) + x4)) none fun v2 => if v2 ≤ nI 0 then q_run 66 105 [(0, .ref x0), (1, .int x1), (2, .int x2), (3, .int x3), (4, .int x4)] [] σ else q_run 66 100 [(0, .ref x0), (1, .int x1), (2, .int x2), (4, .int x4)] [] σ := (q_run_un 66 [13, 75, 76, 100, 105, 106] 63 ..).trans rfl
set_option maxRecDepth 100000 in
theorem e_66_100 (x0 : Nat) (x1 : Int32) (x2 : Int32) (x4 : Int32) (σ : qH) : q_run 66 100 [(0, .ref x0), (1, .int x1), (2, .int x2), (4, .int x4)] [] σ = q_run 66 106 [(0, .ref x0), (1, .int x1), (2, .int x2), (4, .int x4)] [.int x4] σ := (q_run_un 66 [13, 75, 76, 100, 105, 106] 63 ..).trans rfl
set_option maxRecDepth 100000 in
theorem e_66_105 (x0 : Nat) (x1 : Int32) (x2 : Int32) (x3 : Int32) (x4 : Int32) (σ : qH) : q_run 66 105 [(0, .ref x0), (1, .int x1), (2, .int x2), (3, .int x3), (4, .int x4)] [] σ = q_run 66 106 [(0, .ref x0), (1, .int x1), (2, .int x2), (4, .int x4)] [.int x3] σ := (q_run_un 66 [13, 75, 76, 100, 105, 106] 63 ..).trans rfl
set_option maxRecDepth 100000 in
theorem e_66_106 (x0 : Nat) (x1 : Int32) (x2 : Int32) (x4 : Int32) (s0 : Int32) (σ : qH) : q_run 66 106 [(0, .ref x0), (1, .int x1), (2, .int x2), (4, .int x4)] [.int s0] σ = q_run 66 13 [(0, .ref x0), (1, .int x1), (2, .int x2), (3, .int s0), (4, .int (x4 + (-1 : Int32)))] [] σ := (q_run_un 66 [13, 75, 76, 100, 105, 106] 63 ..).trans rfl
-- 67 X7_steps
set_option maxRecDepth 100000 in
theorem e_67_0 (x0 : Nat) (σ : qH) : q_run 67 0 [(0, .ref x0)] [] σ = q_run 67 4 [(0, .ref x0), (1, .int (nI 0)), (2, .int (nI 0))] [] σ := (q_run_un 67 [4, 51, 63, 86, 132, 226, 227] 145 ..).trans rfl
set_option maxRecDepth 100000 in
theorem e_67_4 (x0 : Nat) (x1 : Int32) (x2 : Int32) (σ : qH) : q_run 67 4 [(0, .ref x0), (1, .int x1), (2, .int x2)] [] σ = q_ob (q_getR σ (.ref x0) 7 3) none fun v1 => q_ob (q_aldI σ (.ref v1) 1 (nI 1)) none fun v2 => if v2 ≤ x2 then some (some (.int x1), σ) else q_ob (q_getR σ (.ref x0) 7 5) none fun v3 => q_ob (q_aldI σ (.ref v3) 1 x2) none fun v4 => q_ob (q_getR σ (.ref x0) 7 5) none fun v5 => q_ob (q_aldI σ (.ref v5) 1 (nI 20)) none fun v6 => q_ob (q_cI (q_call 64 [.int v6, .int v4] σ)) none fun p7 => if p7.1 = nI 0 then q_ob (q_getR p7.2 (.ref x0) 7 5) none fun v8 => q_ob (q_aldI p7.2 (.ref v8) 1 ((nI 15) + v4)) none fun v9 => if v9 = nI 0 then q_run 67 51 [(0, .ref x0), (1, .int x1), (2, .int x2), (3, .int v4), (4, .int p7.1)] [] p7.2 else q_ob (q_getR p7.2 (.ref x0) 7 5) none fun v10 => q_ob (q_aldI p7.2 (.ref v10) 1 ((nI 15) + v4)) none fun v11 => q_ob (q_getR p7.2 (.ref x0) 7 3) none fun v12 => q_ob (q_aldI p7.2 (.ref v12) 1 ((nI 25) + x2)) none fun v13 => if v13 ≤ v11 then q_ob (q_getR p7.2 (.ref x0) 7 3) none fun v14 => q_ob (q_aldI p7.2 (.ref v14) 1 ((nI 25) + x2)) none fun v15 => q_run 67 132 [(0, .ref x0), (1, .int x1), (2, .int x2), (3, .int v4)] [.int v15] p7.2 else q_ob (q_getR p7.2 (.ref x0) 7 5) none fun v16 => q_ob (q_aldI p7.2 (.ref v16) 1 ((nI 15) + v4)) none fun v17 => q_run 67 132 [(0, .ref x0), (1, .int x1), (2, .int x2), (3, .int v4)] [.int v17] p7.2 else q_run 67 51 [(0, .ref x0), (1, .int x1), (2, .int x2), (3, .int v4), (4, .int p7.1)] [] p7.2 := (q_run_un 67 [4, 51, 63, 86, 132, 226, 227] 145 ..).trans rfl
set_option maxRecDepth 100000 in
theorem e_67_51 (x0 : Nat) (x1 : Int32) (x2 : Int32) (x3 : Int32) (x4 : Int32) (σ : qH) : q_run 67 51 [(0, .ref x0), (1, .int x1), (2, .int x2), (3, .int x3), (4, .int x4)] [] σ = if x4 = nI 0 then q_run 67 63 [(0, .ref x0), (1, .int x1), (2, .int x2), (3, .int x3)] [.int (nI 1), .int x3, .ref x0] σ else q_run 67 63 [(0, .ref x0), (1, .int x1), (2, .int x2), (3, .int x3)] [.int (nI 0), .int x3, .ref x0] σ := (q_run_un 67 [4, 51, 63, 86, 132, 226, 227] 145 ..).trans rfl
set_option maxRecDepth 100000 in
theorem e_67_63 (x0 : Nat) (x1 : Int32) (x2 : Int32) (x3 : Int32) (s0 : Int32) (s1 : Int32) (s2 : Nat) (σ : qH) : q_run 67 63 [(0, .ref x0), (1, .int x1), (2, .int x2), (3, .int x3)] [.int s0, .int s1, .ref s2] σ = q_ob (q_cI (q_call 66 [.ref s2, .int s1, .int s0] σ)) none fun p1 => q_ob (q_getR p1.2 (.ref x0) 7 5) none fun v2 => if p1.1 = (-9 : Int32) then q_run 67 86 [(0, .ref x0), (1, .int x1), (2, .int x2)] [.int x3, .int x2, .ref v2] p1.2 else q_run 67 86 [(0, .ref x0), (1, .int x1), (2, .int x2)] [.int p1.1, .int x2, .ref v2] p1.2 := (q_run_un 67 [4, 51, 63, 86, 132, 226, 227] 145 ..).trans rfl
set_option maxRecDepth 100000 in
theorem e_67_86 (x0 : Nat) (x1 : Int32) (x2 : Int32) (s0 : Int32) (s1 : Int32) (s2 : Nat) (σ : qH) : q_run 67 86 [(0, .ref x0), (1, .int x1), (2, .int x2)] [.int s0, .int s1, .ref s2] σ = q_ob (q_astI σ (.ref s2) 1 s1 s0) none fun h1 => q_run 67 227 [(0, .ref x0), (1, .int x1), (2, .int x2)] [] h1 := (q_run_un 67 [4, 51, 63, 86, 132, 226, 227] 145 ..).trans rfl
set_option maxRecDepth 100000 in
theorem e_67_132 (x0 : Nat) (x1 : Int32) (x2 : Int32) (x3 : Int32) (s0 : Int32) (σ : qH) : q_run 67 132 [(0, .ref x0), (1, .int x1), (2, .int x2), (3, .int x3)] [.int s0] σ = q_ob (q_getR σ (.ref x0) 7 5) none fun v1 => q_ob (q_aldI σ (.ref v1) 1 ((nI 15) + x3)) none fun v2 => q_ob (q_astI σ (.ref v1) 1 ((nI 15) + x3) (v2 - s0)) none fun h3 => q_ob (q_getR h3 (.ref x0) 7 5) none fun v4 => q_ob (q_aldI h3 (.ref v4) 1 ((nI 5) + x2)) none fun v5 => q_ob (q_getR h3 (.ref x0) 7 5) none fun v6 => q_ob (q_aldI h3 (.ref v6) 1 ((nI 10) + x2)) none fun v7 => q_ob (q_getR h3 (.ref x0) 7 3) none fun v8 => q_ob (q_aldI h3 (.ref v8) 1 (nI 2)) none fun v9 => if v9 = nI 0 then none else q_ob (q_getR h3 (.ref x0) 7 5) none fun v10 => q_ob (q_getR h3 (.ref x0) 7 3) none fun v11 => q_ob (q_aldI h3 (.ref v11) 1 (nI 2)) none fun v12 => if v12 = nI 0 then none else q_ob (q_astI h3 (.ref v10) 1 ((nI 5) + x2) ((v5 + s0) - (v5 + s0) / v12 * v12)) none fun h13 => q_ob (q_getR h13 (.ref x0) 7 5) none fun v14 => if (v7 + ((v5 + s0) / v9)) ≤ (nI 99) then q_run 67 226 [(0, .ref x0), (1, .int (x1 + s0)), (2, .int x2)] [.int (v7 + ((v5 + s0) / v9)), .int ((nI 10) + x2), .ref v14] h13 else q_run 67 226 [(0, .ref x0), (1, .int (x1 + s0)), (2, .int x2)] [.int (nI 99), .int ((nI 10) + x2), .ref v14] h13 := (q_run_un 67 [4, 51, 63, 86, 132, 226, 227] 145 ..).trans rfl
set_option maxRecDepth 100000 in
theorem e_67_226 (x0 : Nat) (x1 : Int32) (x2 : Int32) (s0 : Int32) (s1 : Int32) (s2 : Nat) (σ : qH) : q_run 67 226 [(0, .ref x0), (1, .int x1), (2, .int x2)] [.int s0, .int s1, .ref s2] σ = q_ob (q_astI σ (.ref s2) 1 s1 s0) none fun h1 => q_run 67 227 [(0, .ref x0), (1, .int x1), (2, .int x2)] [] h1 := (q_run_un 67 [4, 51, 63, 86, 132, 226, 227] 145 ..).trans rfl
set_option maxRecDepth 100000 in
theorem e_67_227 (x0 : Nat) (x1 : Int32) (x2 : Int32) (σ : qH) : q_run 67 227 [(0, .ref x0), (1, .int x1), (2, .int x2)] [] σ = q_run 67 4 [(0, .ref x0), (1, .int x1), (2, .int (x2 + (nI 1)))] [] σ := (q_run_un 67 [4, 51, 63, 86, 132, 226, 227] 145 ..).trans rfl
-- 68 X7_lets
set_option maxRecDepth 100000 in
theorem e_68_0 (x0 : Nat) (σ : qH) : q_run 68 0 [(0, .ref x0)] [] σ = q_run 68 2 [(0, .ref x0), (1, .int (nI 0))] [] σ := (q_run_un 68 [2] 18 ..).trans rfl
set_option maxRecDepth 100000 in
theorem e_68_2 (x0 : Nat) (x1 : Int32) (σ : qH) : q_run 68 2 [(0, .ref x0), (1, .int x1)] [] σ = if (nI 22) ≤ x1 then some (none, σ) else q_ob (q_getR σ (.ref x0) 7 5) none fun v1 => q_ob (q_getR σ (.ref x0) 7 16) none fun v2 => q_ob (q_aldI σ (.ref v2) 1 x1) none fun v3 => q_ob (q_astI σ (.ref v1) 1 x1 v3) none fun h4 => q_run 68 2 [(0, .ref x0), (1, .int (x1 + (nI 1)))] [] h4 := (q_run_un 68 [2] 18 ..).trans rfl
-- 69 X7_bare
set_option maxRecDepth 100000 in
theorem e_69_0 (x0 : Nat) (x1 : Int32) (σ : qH) : q_run 69 0 [(0, .ref x0), (1, .int x1)] [] σ = q_ob (q_cV (q_call 63 [.ref x0] σ)) none fun h1 => q_run 69 6 [(0, .ref x0), (1, .int x1), (2, .int (nI 0))] [] h1 := (q_run_un 69 [6, 35] 30 ..).trans rfl
set_option maxRecDepth 100000 in
theorem e_69_6 (x0 : Nat) (x1 : Int32) (x2 : Int32) (σ : qH) : q_run 69 6 [(0, .ref x0), (1, .int x1), (2, .int x2)] [] σ = if (nI 60) < x2 then q_run 69 35 [(0, .ref x0), (2, .int x2)] [] σ else q_ob (q_getR σ (.ref x0) 7 5) none fun v1 => q_ob (q_aldI σ (.ref v1) 1 ((nI 15) + x1)) none fun v2 => if v2 ≤ nI 0 then q_run 69 35 [(0, .ref x0), (2, .int x2)] [] σ else q_ob (q_cI (q_call 67 [.ref x0] σ)) none fun p3 => q_run 69 6 [(0, .ref x0), (1, .int x1), (2, .int (x2 + (nI 1)))] [] p3.2 := (q_run_un 69 [6, 35] 30 ..).trans rfl
set_option maxRecDepth 100000 in
theorem e_69_35 (x0 : Nat) (x2 : Int32) (σ : qH) : q_run 69 35 [(0, .ref x0), (2, .int x2)] [] σ = q_ob (q_cV (q_call 68 [.ref x0] σ)) none fun h1 => if x2 ≤ (nI 60) then some (some (.int x2), h1) else some (some (.int (-9 : Int32)), h1) := (q_run_un 69 [6, 35] 30 ..).trans rfl
-- 70 X7_room
set_option maxRecDepth 100000 in
theorem e_70_0 (x0 : Nat) (x1 : Int32) (x2 : Int32) (σ : qH) : q_run 70 0 [(0, .ref x0), (1, .int x1), (2, .int x2)] [] σ = q_ob (q_cI (q_call 61 [.ref x0, .int x1] σ)) none fun p1 => if p1.1 = nI 0 then some (some (.int (-1 : Int32)), p1.2) else if x2 = nI 0 then q_ob (q_getR p1.2 (.ref x0) 7 3) none fun v2 => q_ob (q_aldI p1.2 (.ref v2) 1 ((nI 5) + x1)) none fun v3 => some (some (.int v3), p1.2) else if x2 = nI 1 then q_ob (q_getR p1.2 (.ref x0) 7 5) none fun v4 => q_ob (q_aldI p1.2 (.ref v4) 1 ((nI 15) + x1)) none fun v5 => some (some (.int v5), p1.2) else if x2 = nI 2 then q_ob (q_getR p1.2 (.ref x0) 7 3) none fun v6 => q_ob (q_aldI p1.2 (.ref v6) 1 ((nI 15) + x1)) none fun v7 => some (some (.int v7), p1.2) else if x2 = nI 3 then q_ob (q_cI (q_call 62 [.ref x0, .int x1] p1.2)) none fun p8 => some (some (.int p8.1), p8.2) else if x2 = nI 4 then q_ob (q_getR p1.2 (.ref x0) 7 5) none fun v9 => q_ob (q_aldI p1.2 (.ref v9) 1 (nI 20)) none fun v10 => some (some (.int ((v10 >>> (x1 &&& 31)) &&& (nI 1))), p1.2) else if x2 = nI 5 then q_ob (q_cI (q_call 69 [.ref x0, .int x1] p1.2)) none fun p11 => some (some (.int p11.1), p11.2) else some (some (.int (-1 : Int32)), p1.2) := (q_run_un 70 [] 50 ..).trans rfl
-- 71 X3_hasFlock
set_option maxRecDepth 100000 in
theorem e_71_0 (x0 : Nat) (x1 : Int32) (σ : qH) : q_run 71 0 [(0, .ref x0), (1, .int x1)] [] σ = if x1 < nI 0 then q_run 71 16 [] [] σ else q_ob (q_getI σ (.ref x0) 3 1) none fun v1 => if v1 ≤ x1 then q_run 71 16 [] [] σ else some (some (.int (nI 1)), σ) := (q_run_un 71 [16] 12 ..).trans rfl
set_option maxRecDepth 100000 in
theorem e_71_16  (σ : qH) : q_run 71 16 [] [] σ = some (some (.int (nI 0)), σ) := (q_run_un 71 [16] 12 ..).trans rfl
-- 72 X6_flock
set_option maxRecDepth 100000 in
theorem e_72_0 (x0 : Nat) (x1 : Int32) (x2 : Int32) (σ : qH) : q_run 72 0 [(0, .ref x0), (1, .int x1), (2, .int x2)] [] σ = q_ob (q_getR σ (.ref x0) 6 2) none fun v1 => q_ob (q_cI (q_call 71 [.ref v1, .int x1] σ)) none fun p2 => if p2.1 = nI 0 then some (some (.int (-1 : Int32)), p2.2) else if x2 = nI 0 then q_ob (q_getR p2.2 (.ref x0) 6 2) none fun v3 => q_ob (q_getI p2.2 (.ref v3) 3 7) none fun v4 => q_ob (q_cI (q_call 49 [.int v4, .int x1] p2.2)) none fun p5 => some (some (.int p5.1), p5.2) else if x2 = nI 1 then q_ob (q_getR p2.2 (.ref x0) 6 2) none fun v6 => q_ob (q_getL p2.2 (.ref v6) 3 8) none fun v7 => q_ob (q_cI (q_call 35 [.long v7, .int x1] p2.2)) none fun p8 => some (some (.int p8.1), p8.2) else if x2 = nI 2 then q_ob (q_getR p2.2 (.ref x0) 6 2) none fun v9 => q_ob (q_getL p2.2 (.ref v9) 3 9) none fun v10 => q_ob (q_cI (q_call 35 [.long v10, .int x1] p2.2)) none fun p11 => some (some (.int p11.1), p11.2) else if x2 = nI 3 then q_ob (q_getR p2.2 (.ref x0) 6 3) none fun v12 => q_ob (q_getI p2.2 (.ref v12) 0 0) none fun v13 => q_ob (q_cI (q_call 49 [.int v13, .int x1] p2.2)) none fun p14 => some (some (.int p14.1), p14.2) else if x2 = nI 4 then q_ob (q_getR p2.2 (.ref x0) 6 3) none fun v15 => q_ob (q_getL p2.2 (.ref v15) 0 2) none fun v16 => q_ob (q_cI (q_call 35 [.long v16, .int x1] p2.2)) none fun p17 => some (some (.int p17.1), p17.2) else if x2 = nI 5 then q_ob (q_getR p2.2 (.ref x0) 6 3) none fun v18 => q_ob (q_getL p2.2 (.ref v18) 0 3) none fun v19 => q_ob (q_cI (q_call 35 [.long v19, .int x1] p2.2)) none fun p20 => some (some (.int p20.1), p20.2) else some (some (.int (-1 : Int32)), p2.2) := (q_run_un 72 [] 49 ..).trans rfl
-- 73 X7_isFlock
set_option maxRecDepth 100000 in
theorem e_73_0 (x0 : Nat) (x1 : Int32) (σ : qH) : q_run 73 0 [(0, .ref x0), (1, .int x1)] [] σ = q_ob (q_getR σ (.ref x0) 7 3) none fun v1 => q_ob (q_aldI σ (.ref v1) 1 (nI 1)) none fun v2 => q_ob (q_cI (q_call 8 [.int x1, .int (nI 0), .int (v2 - (nI 1))] σ)) none fun p3 => q_bt (q_okv 4 (.int p3.1)) (some (some (.int p3.1), p3.2)) none := (q_run_un 73 [] 12 ..).trans rfl
-- 74 X7_flock
set_option maxRecDepth 100000 in
theorem e_74_0 (x0 : Nat) (x1 : Int32) (x2 : Int32) (σ : qH) : q_run 74 0 [(0, .ref x0), (1, .int x1), (2, .int x2)] [] σ = q_ob (q_cI (q_call 73 [.ref x0, .int x1] σ)) none fun p1 => if p1.1 = nI 0 then some (some (.int (-1 : Int32)), p1.2) else if x2 = nI 0 then q_ob (q_getR p1.2 (.ref x0) 7 3) none fun v2 => q_ob (q_aldI p1.2 (.ref v2) 1 ((nI 20) + x1)) none fun v3 => some (some (.int v3), p1.2) else if x2 = nI 1 then q_ob (q_getR p1.2 (.ref x0) 7 3) none fun v4 => q_ob (q_aldI p1.2 (.ref v4) 1 ((nI 25) + x1)) none fun v5 => some (some (.int v5), p1.2) else if x2 = nI 2 then q_ob (q_getR p1.2 (.ref x0) 7 3) none fun v6 => q_ob (q_aldI p1.2 (.ref v6) 1 ((nI 30) + x1)) none fun v7 => some (some (.int v7), p1.2) else if x2 = nI 3 then q_ob (q_getR p1.2 (.ref x0) 7 5) none fun v8 => q_ob (q_aldI p1.2 (.ref v8) 1 x1) none fun v9 => some (some (.int v9), p1.2) else if x2 = nI 4 then q_ob (q_getR p1.2 (.ref x0) 7 5) none fun v10 => q_ob (q_aldI p1.2 (.ref v10) 1 ((nI 5) + x1)) none fun v11 => some (some (.int v11), p1.2) else if x2 = nI 5 then q_ob (q_getR p1.2 (.ref x0) 7 5) none fun v12 => q_ob (q_aldI p1.2 (.ref v12) 1 ((nI 10) + x1)) none fun v13 => some (some (.int v13), p1.2) else some (some (.int (-1 : Int32)), p1.2) := (q_run_un 74 [] 52 ..).trans rfl
-- 75 X3_strays
set_option maxRecDepth 100000 in
theorem e_75_0 (x0 : Nat) (x1 : Int32) (σ : qH) : q_run 75 0 [(0, .ref x0), (1, .int x1)] [] σ = q_run 75 4 [(0, .ref x0), (1, .int x1), (2, .int (nI 0)), (3, .int (nI 0))] [] σ := (q_run_un 75 [4, 34] 28 ..).trans rfl
set_option maxRecDepth 100000 in
theorem e_75_4 (x0 : Nat) (x1 : Int32) (x2 : Int32) (x3 : Int32) (σ : qH) : q_run 75 4 [(0, .ref x0), (1, .int x1), (2, .int x2), (3, .int x3)] [] σ = q_ob (q_getI σ (.ref x0) 3 1) none fun v1 => if v1 ≤ x3 then some (some (.int x2), σ) else q_ob (q_cI (q_call 49 [.int x1, .int x3] σ)) none fun p2 => q_ob (q_getI p2.2 (.ref x0) 3 7) none fun v3 => q_ob (q_cI (q_call 49 [.int v3, .int x3] p2.2)) none fun p4 => if p2.1 = p4.1 then q_run 75 34 [(0, .ref x0), (1, .int x1), (2, .int x2), (3, .int x3)] [] p4.2 else q_run 75 34 [(0, .ref x0), (1, .int x1), (2, .int (x2 ||| ((nI 1) <<< (x3 &&& 31)))), (3, .int x3)] [] p4.2 := (q_run_un 75 [4, 34] 28 ..).trans rfl
set_option maxRecDepth 100000 in
theorem e_75_34 (x0 : Nat) (x1 : Int32) (x2 : Int32) (x3 : Int32) (σ : qH) : q_run 75 34 [(0, .ref x0), (1, .int x1), (2, .int x2), (3, .int x3)] [] σ = q_run 75 4 [(0, .ref x0), (1, .int x1), (2, .int x2), (3, .int (x3 + (nI 1)))] [] σ := (q_run_un 75 [4, 34] 28 ..).trans rfl
-- 76 X6_sum
set_option maxRecDepth 100000 in
theorem e_76_0 (x0 : Int64) (σ : qH) : q_run 76 0 [(0, .long x0)] [] σ = q_run 76 4 [(0, .long x0), (2, .int (nI 0)), (3, .int (nI 0))] [] σ := (q_run_un 76 [4] 19 ..).trans rfl
set_option maxRecDepth 100000 in
theorem e_76_4 (x0 : Int64) (x2 : Int32) (x3 : Int32) (σ : qH) : q_run 76 4 [(0, .long x0), (2, .int x2), (3, .int x3)] [] σ = if (nI 5) ≤ x3 then some (some (.int x2), σ) else q_ob (q_cI (q_call 35 [.long x0, .int x3] σ)) none fun p1 => q_run 76 4 [(0, .long x0), (2, .int (x2 + p1.1)), (3, .int (x3 + (nI 1)))] [] p1.2 := (q_run_un 76 [4] 19 ..).trans rfl
-- 77 X6_now
set_option maxRecDepth 100000 in
theorem e_77_0 (x0 : Nat) (x1 : Int32) (σ : qH) : q_run 77 0 [(0, .ref x0), (1, .int x1)] [] σ = if x1 = nI 0 then q_ob (q_getR σ (.ref x0) 6 3) none fun v1 => q_ob (q_getI σ (.ref v1) 0 5) none fun v2 => some (some (.int v2), σ) else if x1 = nI 1 then q_ob (q_getR σ (.ref x0) 6 2) none fun v3 => q_ob (q_getR σ (.ref x0) 6 3) none fun v4 => q_ob (q_getI σ (.ref v4) 0 0) none fun v5 => q_ob (q_cI (q_call 75 [.ref v3, .int v5] σ)) none fun p6 => some (some (.int p6.1), p6.2) else if x1 = nI 2 then q_ob (q_getR σ (.ref x0) 6 3) none fun v7 => q_ob (q_getI σ (.ref v7) 0 4) none fun v8 => some (some (.int v8), σ) else if x1 = nI 3 then q_ob (q_getR σ (.ref x0) 6 3) none fun v9 => q_ob (q_getL σ (.ref v9) 0 1) none fun v10 => q_ob (q_cI (q_call 76 [.long v10] σ)) none fun p11 => some (some (.int p11.1), p11.2) else if x1 = nI 4 then q_ob (q_getR σ (.ref x0) 6 3) none fun v12 => q_ob (q_getL σ (.ref v12) 0 3) none fun v13 => q_ob (q_cI (q_call 76 [.long v13] σ)) none fun p14 => some (some (.int p14.1), p14.2) else if x1 = nI 5 then q_ob (q_getR σ (.ref x0) 6 5) none fun v15 => q_ob (q_getI σ (.ref v15) 2 2) none fun v16 => some (some (.int v16), σ) else some (some (.int (-1 : Int32)), σ) := (q_run_un 77 [] 35 ..).trans rfl
-- 78 X7_strays
set_option maxRecDepth 100000 in
theorem e_78_0 (x0 : Nat) (σ : qH) : q_run 78 0 [(0, .ref x0)] [] σ = q_run 78 4 [(0, .ref x0), (1, .int (nI 0)), (2, .int (nI 0))] [] σ := (q_run_un 78 [4, 40] 35 ..).trans rfl
set_option maxRecDepth 100000 in
theorem e_78_4 (x0 : Nat) (x1 : Int32) (x2 : Int32) (σ : qH) : q_run 78 4 [(0, .ref x0), (1, .int x1), (2, .int x2)] [] σ = q_ob (q_getR σ (.ref x0) 7 3) none fun v1 => q_ob (q_aldI σ (.ref v1) 1 (nI 1)) none fun v2 => if v2 ≤ x2 then some (some (.int x1), σ) else q_ob (q_getR σ (.ref x0) 7 5) none fun v3 => q_ob (q_aldI σ (.ref v3) 1 x2) none fun v4 => q_ob (q_getR σ (.ref x0) 7 3) none fun v5 => q_ob (q_aldI σ (.ref v5) 1 ((nI 20) + x2)) none fun v6 => if v4 = v6 then q_run 78 40 [(0, .ref x0), (2, .int x2)] [.int (nI 0), .int x1] σ else q_run 78 40 [(0, .ref x0), (2, .int x2)] [.int ((nI 1) <<< (x2 &&& 31)), .int x1] σ := (q_run_un 78 [4, 40] 35 ..).trans rfl
set_option maxRecDepth 100000 in
theorem e_78_40 (x0 : Nat) (x2 : Int32) (s0 : Int32) (s1 : Int32) (σ : qH) : q_run 78 40 [(0, .ref x0), (2, .int x2)] [.int s0, .int s1] σ = q_run 78 4 [(0, .ref x0), (1, .int (s1 ||| s0)), (2, .int (x2 + (nI 1)))] [] σ := (q_run_un 78 [4, 40] 35 ..).trans rfl
-- 79 X7_now
set_option maxRecDepth 100000 in
theorem e_79_0 (x0 : Nat) (x1 : Int32) (σ : qH) : q_run 79 0 [(0, .ref x0), (1, .int x1)] [] σ = q_run 79 7 [(0, .ref x0), (1, .int x1), (2, .int (nI 0)), (3, .int (nI 0)), (4, .int (nI 0))] [] σ := (q_run_un 79 [7] 55 ..).trans rfl
set_option maxRecDepth 100000 in
theorem e_79_7 (x0 : Nat) (x1 : Int32) (x2 : Int32) (x3 : Int32) (x4 : Int32) (σ : qH) : q_run 79 7 [(0, .ref x0), (1, .int x1), (2, .int x2), (3, .int x3), (4, .int x4)] [] σ = if (nI 5) ≤ x4 then if x1 = nI 0 then q_ob (q_getR σ (.ref x0) 7 5) none fun v1 => q_ob (q_aldI σ (.ref v1) 1 (nI 21)) none fun v2 => some (some (.int v2), σ) else if x1 = nI 1 then q_ob (q_cI (q_call 78 [.ref x0] σ)) none fun p3 => some (some (.int p3.1), p3.2) else if x1 = nI 2 then q_ob (q_getR σ (.ref x0) 7 5) none fun v4 => q_ob (q_aldI σ (.ref v4) 1 (nI 20)) none fun v5 => some (some (.int v5), σ) else if x1 = nI 3 then some (some (.int x2), σ) else if x1 = nI 4 then some (some (.int x3), σ) else if x1 = nI 5 then q_ob (q_getI σ (.ref x0) 7 7) none fun v6 => some (some (.int v6), σ) else some (some (.int (-1 : Int32)), σ) else q_ob (q_getR σ (.ref x0) 7 5) none fun v7 => q_ob (q_aldI σ (.ref v7) 1 ((nI 15) + x4)) none fun v8 => q_ob (q_getR σ (.ref x0) 7 5) none fun v9 => q_ob (q_aldI σ (.ref v9) 1 ((nI 10) + x4)) none fun v10 => q_run 79 7 [(0, .ref x0), (1, .int x1), (2, .int (x2 + v8)), (3, .int (x3 + v10)), (4, .int (x4 + (nI 1)))] [] σ := (q_run_un 79 [7] 55 ..).trans rfl
-- 80 X6_slot
set_option maxRecDepth 100000 in
theorem e_80_0 (x0 : Nat) (x1 : Int32) (σ : qH) : q_run 80 0 [(0, .ref x0), (1, .int x1)] [] σ = if x1 < nI 0 then q_run 80 10 [] [] σ else q_ob (q_alen σ (.ref x0) 4) none fun v1 => if x1 < v1 then q_ob (q_aldR σ (.ref x0) x1) none fun v2 => some (some (.ref v2), σ) else q_run 80 10 [] [] σ := (q_run_un 80 [10] 14 ..).trans rfl
set_option maxRecDepth 100000 in
theorem e_80_10  (σ : qH) : q_run 80 10 [] [] σ = some (some (.null), σ) := (q_run_un 80 [10] 14 ..).trans rfl
-- 81 X2_remember
set_option maxRecDepth 100000 in
theorem e_81_0 (x0 : Nat) (x1 : Nat) (σ : qH) : q_run 81 0 [(0, .ref x0), (1, .ref x1)] [] σ = q_ob (q_getR σ (.ref x0) 2 0) none fun v1 => q_ob (q_getI σ (.ref x0) 2 1) none fun v2 => q_ob (q_cR (q_call 80 [.ref v1, .int v2] σ)) none fun p3 => match p3.1 with | some a4 => q_ob (q_cV (q_call 51 [.ref a4, .ref x1] p3.2)) none fun h5 => q_ob (q_getI h5 (.ref x0) 2 1) none fun v6 => if (nI 10) = nI 0 then none else q_ob (q_put h5 (.ref x0) 2 1 0 (.int ((v6 + (nI 1)) - (v6 + (nI 1)) / (nI 10) * (nI 10)))) none fun h7 => q_ob (q_getI h7 (.ref x0) 2 2) none fun v8 => q_ob (q_put h7 (.ref x0) 2 2 0 (.int (q_min (nI 10) (v8 + (nI 1))))) none fun h9 => some (none, h9) | none => some (none, p3.2) := (q_run_un 81 [] 31 ..).trans rfl
-- 82 X6_step
set_option maxRecDepth 100000 in
theorem e_82_0 (x0 : Nat) (σ : qH) : q_run 82 0 [(0, .ref x0)] [] σ = q_ob (q_getR σ (.ref x0) 6 5) none fun v1 => q_ob (q_getR σ (.ref x0) 6 3) none fun v2 => q_ob (q_cV (q_call 81 [.ref v1, .ref v2] σ)) none fun h3 => q_ob (q_getR h3 (.ref x0) 6 3) none fun v4 => q_ob (q_getR h3 (.ref x0) 6 2) none fun v5 => q_ob (q_cI (q_call 58 [.ref v4, .ref v5] h3)) none fun p6 => some (some (.int p6.1), p6.2) := (q_run_un 82 [] 13 ..).trans rfl
-- 83 X7_keeps
set_option maxRecDepth 100000 in
theorem e_83_0 (x0 : Nat) (σ : qH) : q_run 83 0 [(0, .ref x0)] [] σ = q_ob (q_getI σ (.ref x0) 7 7) none fun v1 => if v1 = (nI 10) then q_run 83 11 [(0, .ref x0), (1, .int (nI 0))] [] σ else q_run 83 49 [(0, .ref x0)] [] σ := (q_run_un 83 [11, 49, 51] 56 ..).trans rfl
set_option maxRecDepth 100000 in
theorem e_83_11 (x0 : Nat) (x1 : Int32) (σ : qH) : q_run 83 11 [(0, .ref x0), (1, .int x1)] [] σ = if (nI 198) ≤ x1 then q_ob (q_getI σ (.ref x0) 7 7) none fun v1 => q_ob (q_put σ (.ref x0) 7 7 0 (.int (v1 - (nI 1)))) none fun h2 => q_run 83 49 [(0, .ref x0)] [] h2 else q_ob (q_getR σ (.ref x0) 7 6) none fun v3 => q_ob (q_getR σ (.ref x0) 7 6) none fun v4 => q_ob (q_aldI σ (.ref v4) 1 (x1 + (nI 22))) none fun v5 => q_ob (q_astI σ (.ref v3) 1 x1 v5) none fun h6 => q_run 83 11 [(0, .ref x0), (1, .int (x1 + (nI 1)))] [] h6 := (q_run_un 83 [11, 49, 51] 56 ..).trans rfl
set_option maxRecDepth 100000 in
theorem e_83_49 (x0 : Nat) (σ : qH) : q_run 83 49 [(0, .ref x0)] [] σ = q_run 83 51 [(0, .ref x0), (1, .int (nI 0))] [] σ := (q_run_un 83 [11, 49, 51] 56 ..).trans rfl
set_option maxRecDepth 100000 in
theorem e_83_51 (x0 : Nat) (x1 : Int32) (σ : qH) : q_run 83 51 [(0, .ref x0), (1, .int x1)] [] σ = if (nI 22) ≤ x1 then q_ob (q_getI σ (.ref x0) 7 7) none fun v1 => q_ob (q_put σ (.ref x0) 7 7 0 (.int (v1 + (nI 1)))) none fun h2 => some (none, h2) else q_ob (q_getR σ (.ref x0) 7 6) none fun v3 => q_ob (q_getI σ (.ref x0) 7 7) none fun v4 => q_ob (q_getR σ (.ref x0) 7 5) none fun v5 => q_ob (q_aldI σ (.ref v5) 1 x1) none fun v6 => q_ob (q_astI σ (.ref v3) 1 (((nI 22) * v4) + x1) v6) none fun h7 => q_run 83 51 [(0, .ref x0), (1, .int (x1 + (nI 1)))] [] h7 := (q_run_un 83 [11, 49, 51] 56 ..).trans rfl
-- 84 X7_step
set_option maxRecDepth 100000 in
theorem e_84_0 (x0 : Nat) (σ : qH) : q_run 84 0 [(0, .ref x0)] [] σ = q_ob (q_cV (q_call 83 [.ref x0] σ)) none fun h1 => q_ob (q_cI (q_call 67 [.ref x0] h1)) none fun p2 => some (some (.int p2.1), p2.2) := (q_run_un 84 [] 7 ..).trans rfl
-- 85 X6_drives
set_option maxRecDepth 100000 in
theorem e_85_0 (x0 : Nat) (x1 : Int32) (x2 : Int32) (σ : qH) : q_run 85 0 [(0, .ref x0), (1, .int x1), (2, .int x2)] [] σ = q_ob (q_getR σ (.ref x0) 6 2) none fun v1 => q_ob (q_cI (q_call 71 [.ref v1, .int x1] σ)) none fun p2 => if p2.1 = nI 0 then q_run 85 22 [] [] p2.2 else q_ob (q_getR p2.2 (.ref x0) 6 2) none fun v3 => q_ob (q_cI (q_call 28 [.ref v3, .int x2] p2.2)) none fun p4 => if p4.1 = nI 0 then q_run 85 22 [] [] p4.2 else q_ob (q_getR p4.2 (.ref x0) 6 3) none fun v5 => q_ob (q_getI p4.2 (.ref v5) 0 0) none fun v6 => q_ob (q_cI (q_call 49 [.int v6, .int x1] p4.2)) none fun p7 => q_ob (q_getR p7.2 (.ref x0) 6 2) none fun v8 => q_ob (q_getL p7.2 (.ref v8) 3 6) none fun v9 => q_ob (q_cI (q_call 35 [.long v9, .int p7.1] p7.2)) none fun p10 => q_ob (q_getR p10.2 (.ref x0) 6 2) none fun v11 => q_ob (q_getR p10.2 (.ref x0) 6 3) none fun v12 => q_ob (q_getI p10.2 (.ref v12) 0 0) none fun v13 => q_ob (q_getR p10.2 (.ref x0) 6 3) none fun v14 => q_ob (q_getI p10.2 (.ref v14) 0 4) none fun v15 => q_ob (q_cI (q_call 54 [.ref v11, .int v13, .int v15] p10.2)) none fun p16 => q_ob (q_cI (q_call 52 [.int (p10.1 &&& p16.1), .int x2] p16.2)) none fun p17 => if p17.1 = nI 0 then some (some (.int (-2 : Int32)), p17.2) else q_ob (q_getR p17.2 (.ref x0) 6 5) none fun v18 => q_ob (q_getR p17.2 (.ref x0) 6 3) none fun v19 => q_ob (q_cV (q_call 81 [.ref v18, .ref v19] p17.2)) none fun h20 => q_ob (q_getR h20 (.ref x0) 6 3) none fun v21 => q_ob (q_getR h20 (.ref x0) 6 3) none fun v22 => q_ob (q_getI h20 (.ref v22) 0 0) none fun v23 => q_ob (q_cI (q_call 37 [.int v23, .int x1, .int x2] h20)) none fun p24 => q_ob (q_put p24.2 (.ref v21) 0 0 0 (.int p24.1)) none fun h25 => some (some (.int p7.1), h25) := (q_run_un 85 [22] 58 ..).trans rfl
set_option maxRecDepth 100000 in
theorem e_85_22  (σ : qH) : q_run 85 22 [] [] σ = some (some (.int (-1 : Int32)), σ) := (q_run_un 85 [22] 58 ..).trans rfl
-- 86 X7_mayDrive
set_option maxRecDepth 100000 in
theorem e_86_0 (x0 : Nat) (x1 : Int32) (x2 : Int32) (σ : qH) : q_run 86 0 [(0, .ref x0), (1, .int x1), (2, .int x2)] [] σ = q_ob (q_getR σ (.ref x0) 7 3) none fun v1 => q_ob (q_getR σ (.ref x0) 7 5) none fun v2 => q_ob (q_aldI σ (.ref v2) 1 x1) none fun v3 => q_ob (q_aldI σ (.ref v1) 1 ((nI 15) + v3)) none fun v4 => q_ob (q_cI (q_call 64 [.int v4, .int x2] σ)) none fun p5 => if p5.1 = nI 0 then q_run 86 58 [] [] p5.2 else q_ob (q_getR p5.2 (.ref x0) 7 5) none fun v6 => q_ob (q_aldI p5.2 (.ref v6) 1 (nI 20)) none fun v7 => q_ob (q_cI (q_call 64 [.int v7, .int x2] p5.2)) none fun p8 => if p8.1 = nI 0 then q_ob (q_cI (q_call 62 [.ref x0, .int x2] p8.2)) none fun p9 => q_ob (q_cI (q_call 65 [.int p9.1] p9.2)) none fun p10 => q_ob (q_getR p10.2 (.ref x0) 7 3) none fun v11 => q_ob (q_aldI p10.2 (.ref v11) 1 ((nI 5) + x2)) none fun v12 => if v12 ≤ p10.1 then q_run 86 58 [] [] p10.2 else some (some (.int (nI 1)), p10.2) else q_run 86 58 [] [] p8.2 := (q_run_un 86 [58] 36 ..).trans rfl
set_option maxRecDepth 100000 in
theorem e_86_58  (σ : qH) : q_run 86 58 [] [] σ = some (some (.int (nI 0)), σ) := (q_run_un 86 [58] 36 ..).trans rfl
-- 87 X7_drives
set_option maxRecDepth 100000 in
theorem e_87_0 (x0 : Nat) (x1 : Int32) (x2 : Int32) (σ : qH) : q_run 87 0 [(0, .ref x0), (1, .int x1), (2, .int x2)] [] σ = q_ob (q_cI (q_call 73 [.ref x0, .int x1] σ)) none fun p1 => if p1.1 = nI 0 then q_run 87 16 [] [] p1.2 else q_ob (q_cI (q_call 61 [.ref x0, .int x2] p1.2)) none fun p2 => if p2.1 = nI 0 then q_run 87 16 [] [] p2.2 else q_ob (q_cI (q_call 86 [.ref x0, .int x1, .int x2] p2.2)) none fun p3 => if p3.1 = nI 0 then some (some (.int (-2 : Int32)), p3.2) else q_ob (q_cV (q_call 83 [.ref x0] p3.2)) none fun h4 => q_ob (q_getR h4 (.ref x0) 7 5) none fun v5 => q_ob (q_aldI h4 (.ref v5) 1 x1) none fun v6 => q_ob (q_getR h4 (.ref x0) 7 5) none fun v7 => q_ob (q_astI h4 (.ref v7) 1 x1 x2) none fun h8 => some (some (.int v6), h8) := (q_run_un 87 [16] 33 ..).trans rfl
set_option maxRecDepth 100000 in
theorem e_87_16  (σ : qH) : q_run 87 16 [] [] σ = some (some (.int (-1 : Int32)), σ) := (q_run_un 87 [16] 33 ..).trans rfl
-- 88 J6_bitCount
set_option maxRecDepth 100000 in
theorem e_88_0 (x0 : Int32) (σ : qH) : q_run 88 0 [(0, .int x0)] [] σ = some (some (.int ((((((((x0 - ((Int32.toUInt32 x0 >>> (Int32.toUInt32 (nI 1) &&& Int32.toUInt32 31)).toInt32 &&& (nI 1431655765))) &&& (nI 858993459)) + ((Int32.toUInt32 (x0 - ((Int32.toUInt32 x0 >>> (Int32.toUInt32 (nI 1) &&& Int32.toUInt32 31)).toInt32 &&& (nI 1431655765))) >>> (Int32.toUInt32 (nI 2) &&& Int32.toUInt32 31)).toInt32 &&& (nI 858993459))) + (Int32.toUInt32 (((x0 - ((Int32.toUInt32 x0 >>> (Int32.toUInt32 (nI 1) &&& Int32.toUInt32 31)).toInt32 &&& (nI 1431655765))) &&& (nI 858993459)) + ((Int32.toUInt32 (x0 - ((Int32.toUInt32 x0 >>> (Int32.toUInt32 (nI 1) &&& Int32.toUInt32 31)).toInt32 &&& (nI 1431655765))) >>> (Int32.toUInt32 (nI 2) &&& Int32.toUInt32 31)).toInt32 &&& (nI 858993459))) >>> (Int32.toUInt32 (nI 4) &&& Int32.toUInt32 31)).toInt32) &&& (nI 252645135)) + (Int32.toUInt32 (((((x0 - ((Int32.toUInt32 x0 >>> (Int32.toUInt32 (nI 1) &&& Int32.toUInt32 31)).toInt32 &&& (nI 1431655765))) &&& (nI 858993459)) + ((Int32.toUInt32 (x0 - ((Int32.toUInt32 x0 >>> (Int32.toUInt32 (nI 1) &&& Int32.toUInt32 31)).toInt32 &&& (nI 1431655765))) >>> (Int32.toUInt32 (nI 2) &&& Int32.toUInt32 31)).toInt32 &&& (nI 858993459))) + (Int32.toUInt32 (((x0 - ((Int32.toUInt32 x0 >>> (Int32.toUInt32 (nI 1) &&& Int32.toUInt32 31)).toInt32 &&& (nI 1431655765))) &&& (nI 858993459)) + ((Int32.toUInt32 (x0 - ((Int32.toUInt32 x0 >>> (Int32.toUInt32 (nI 1) &&& Int32.toUInt32 31)).toInt32 &&& (nI 1431655765))) >>> (Int32.toUInt32 (nI 2) &&& Int32.toUInt32 31)).toInt32 &&& (nI 858993459))) >>> (Int32.toUInt32 (nI 4) &&& Int32.toUInt32 31)).toInt32) &&& (nI 252645135)) >>> (Int32.toUInt32 (nI 8) &&& Int32.toUInt32 31)).toInt32) + (Int32.toUInt32 ((((((x0 - ((Int32.toUInt32 x0 >>> (Int32.toUInt32 (nI 1) &&& Int32.toUInt32 31)).toInt32 &&& (nI 1431655765))) &&& (nI 858993459)) + ((Int32.toUInt32 (x0 - ((Int32.toUInt32 x0 >>> (Int32.toUInt32 (nI 1) &&& Int32.toUInt32 31)).toInt32 &&& (nI 1431655765))) >>> (Int32.toUInt32 (nI 2) &&& Int32.toUInt32 31)).toInt32 &&& (nI 858993459))) + (Int32.toUInt32 (((x0 - ((Int32.toUInt32 x0 >>> (Int32.toUInt32 (nI 1) &&& Int32.toUInt32 31)).toInt32 &&& (nI 1431655765))) &&& (nI 858993459)) + ((Int32.toUInt32 (x0 - ((Int32.toUInt32 x0 >>> (Int32.toUInt32 (nI 1) &&& Int32.toUInt32 31)).toInt32 &&& (nI 1431655765))) >>> (Int32.toUInt32 (nI 2) &&& Int32.toUInt32 31)).toInt32 &&& (nI 858993459))) >>> (Int32.toUInt32 (nI 4) &&& Int32.toUInt32 31)).toInt32) &&& (nI 252645135)) + (Int32.toUInt32 (((((x0 - ((Int32.toUInt32 x0 >>> (Int32.toUInt32 (nI 1) &&& Int32.toUInt32 31)).toInt32 &&& (nI 1431655765))) &&& (nI 858993459)) + ((Int32.toUInt32 (x0 - ((Int32.toUInt32 x0 >>> (Int32.toUInt32 (nI 1) &&& Int32.toUInt32 31)).toInt32 &&& (nI 1431655765))) >>> (Int32.toUInt32 (nI 2) &&& Int32.toUInt32 31)).toInt32 &&& (nI 858993459))) + (Int32.toUInt32 (((x0 - ((Int32.toUInt32 x0 >>> (Int32.toUInt32 (nI 1) &&& Int32.toUInt32 31)).toInt32 &&& (nI 1431655765))) &&& (nI 858993459)) + ((Int32.toUInt32 (x0 - ((Int32.toUInt32 x0 >>> (Int32.toUInt32 (nI 1) &&& Int32.toUInt32 31)).toInt32 &&& (nI 1431655765))) >>> (Int32.toUInt32 (nI 2) &&& Int32.toUInt32 31)).toInt32 &&& (nI 858993459))) >>> (Int32.toUInt32 (nI 4) &&& Int32.toUInt32 31)).toInt32) &&& (nI 252645135)) >>> (Int32.toUInt32 (nI 8) &&& Int32.toUInt32 31)).toInt32) >>> (Int32.toUInt32 (nI 16) &&& Int32.toUInt32 31)).toInt32) &&& (nI 63))), σ) := (q_run_un 88 [] 44 ..).trans rfl
-- 89 X6_puts
set_option maxRecDepth 100000 in
theorem e_89_0 (x0 : Nat) (x1 : Int32) (σ : qH) : q_run 89 0 [(0, .ref x0), (1, .int x1)] [] σ = q_ob (q_getR σ (.ref x0) 6 2) none fun v1 => q_ob (q_cI (q_call 28 [.ref v1, .int x1] σ)) none fun p2 => if p2.1 = nI 0 then some (some (.int (-1 : Int32)), p2.2) else q_ob (q_getR p2.2 (.ref x0) 6 3) none fun v3 => q_ob (q_getI p2.2 (.ref v3) 0 4) none fun v4 => q_ob (q_cI (q_call 52 [.int v4, .int x1] p2.2)) none fun p5 => if p5.1 = nI 0 then q_ob (q_getR p5.2 (.ref x0) 6 5) none fun v6 => q_ob (q_getR p5.2 (.ref x0) 6 3) none fun v7 => q_ob (q_cV (q_call 81 [.ref v6, .ref v7] p5.2)) none fun h8 => q_ob (q_getR h8 (.ref x0) 6 3) none fun v9 => q_ob (q_getI h8 (.ref v9) 0 4) none fun v10 => q_ob (q_put h8 (.ref v9) 0 4 0 (.int (v10 ||| ((nI 1) <<< (x1 &&& 31))))) none fun h11 => q_ob (q_getR h11 (.ref x0) 6 3) none fun v12 => q_ob (q_getI h11 (.ref v12) 0 4) none fun v13 => q_ob (q_cI (q_call 88 [.int v13] h11)) none fun p14 => some (some (.int p14.1), p14.2) else some (some (.int (-2 : Int32)), p5.2) := (q_run_un 89 [] 36 ..).trans rfl
-- 90 X7_puts
set_option maxRecDepth 100000 in
theorem e_90_0 (x0 : Nat) (x1 : Int32) (σ : qH) : q_run 90 0 [(0, .ref x0), (1, .int x1)] [] σ = q_ob (q_cI (q_call 61 [.ref x0, .int x1] σ)) none fun p1 => if p1.1 = nI 0 then some (some (.int (-1 : Int32)), p1.2) else q_ob (q_getR p1.2 (.ref x0) 7 5) none fun v2 => q_ob (q_aldI p1.2 (.ref v2) 1 (nI 20)) none fun v3 => q_ob (q_cI (q_call 64 [.int v3, .int x1] p1.2)) none fun p4 => if p4.1 = nI 0 then q_ob (q_cV (q_call 83 [.ref x0] p4.2)) none fun h5 => q_ob (q_getR h5 (.ref x0) 7 5) none fun v6 => q_ob (q_aldI h5 (.ref v6) 1 (nI 20)) none fun v7 => q_ob (q_astI h5 (.ref v6) 1 (nI 20) (v7 ||| ((nI 1) <<< (x1 &&& 31)))) none fun h8 => q_ob (q_getR h8 (.ref x0) 7 5) none fun v9 => q_ob (q_aldI h8 (.ref v9) 1 (nI 20)) none fun v10 => q_ob (q_cI (q_call 65 [.int v10] h8)) none fun p11 => some (some (.int p11.1), p11.2) else some (some (.int (-2 : Int32)), p4.2) := (q_run_un 90 [] 35 ..).trans rfl
-- 91 X6_calls
set_option maxRecDepth 100000 in
theorem e_91_0 (x0 : Nat) (x1 : Int32) (σ : qH) : q_run 91 0 [(0, .ref x0), (1, .int x1)] [] σ = q_ob (q_getR σ (.ref x0) 6 2) none fun v1 => q_ob (q_cI (q_call 28 [.ref v1, .int x1] σ)) none fun p2 => if p2.1 = nI 0 then some (some (.int (-1 : Int32)), p2.2) else q_ob (q_getR p2.2 (.ref x0) 6 3) none fun v3 => q_ob (q_getI p2.2 (.ref v3) 0 4) none fun v4 => q_ob (q_cI (q_call 52 [.int v4, .int x1] p2.2)) none fun p5 => if p5.1 = nI 0 then some (some (.int (-2 : Int32)), p5.2) else q_ob (q_getR p5.2 (.ref x0) 6 5) none fun v6 => q_ob (q_getR p5.2 (.ref x0) 6 3) none fun v7 => q_ob (q_cV (q_call 81 [.ref v6, .ref v7] p5.2)) none fun h8 => q_ob (q_getR h8 (.ref x0) 6 3) none fun v9 => q_ob (q_getI h8 (.ref v9) 0 4) none fun v10 => q_ob (q_put h8 (.ref v9) 0 4 0 (.int (v10 &&& (((nI 1) <<< (x1 &&& 31)) ^^^ (-1 : Int32))))) none fun h11 => q_ob (q_getR h11 (.ref x0) 6 3) none fun v12 => q_ob (q_getI h11 (.ref v12) 0 4) none fun v13 => q_ob (q_cI (q_call 88 [.int v13] h11)) none fun p14 => some (some (.int p14.1), p14.2) := (q_run_un 91 [] 38 ..).trans rfl
-- 92 X7_calls
set_option maxRecDepth 100000 in
theorem e_92_0 (x0 : Nat) (x1 : Int32) (σ : qH) : q_run 92 0 [(0, .ref x0), (1, .int x1)] [] σ = q_ob (q_cI (q_call 61 [.ref x0, .int x1] σ)) none fun p1 => if p1.1 = nI 0 then some (some (.int (-1 : Int32)), p1.2) else q_ob (q_getR p1.2 (.ref x0) 7 5) none fun v2 => q_ob (q_aldI p1.2 (.ref v2) 1 (nI 20)) none fun v3 => q_ob (q_cI (q_call 64 [.int v3, .int x1] p1.2)) none fun p4 => if p4.1 = nI 0 then some (some (.int (-2 : Int32)), p4.2) else q_ob (q_cV (q_call 83 [.ref x0] p4.2)) none fun h5 => q_ob (q_getR h5 (.ref x0) 7 5) none fun v6 => q_ob (q_aldI h5 (.ref v6) 1 (nI 20)) none fun v7 => q_ob (q_astI h5 (.ref v6) 1 (nI 20) (v7 ^^^ ((nI 1) <<< (x1 &&& 31)))) none fun h8 => q_ob (q_getR h8 (.ref x0) 7 5) none fun v9 => q_ob (q_aldI h8 (.ref v9) 1 (nI 20)) none fun v10 => q_ob (q_cI (q_call 65 [.int v10] h8)) none fun p11 => some (some (.int p11.1), p11.2) := (q_run_un 92 [] 35 ..).trans rfl
-- 93 X0_brighten
set_option maxRecDepth 100000 in
theorem e_93_0 (x0 : Nat) (x1 : Nat) (σ : qH) : q_run 93 0 [(0, .ref x0), (1, .ref x1)] [] σ = q_run 93 2 [(0, .ref x0), (1, .ref x1), (2, .int (nI 0))] [] σ := (q_run_un 93 [2] 36 ..).trans rfl
set_option maxRecDepth 100000 in
theorem e_93_2 (x0 : Nat) (x1 : Nat) (x2 : Int32) (σ : qH) : q_run 93 2 [(0, .ref x0), (1, .ref x1), (2, .int x2)] [] σ = q_ob (q_getI σ (.ref x1) 3 0) none fun v1 => if v1 ≤ x2 then q_ob (q_getI σ (.ref x0) 0 5) none fun v2 => q_ob (q_put σ (.ref x0) 0 5 0 (.int (v2 + (nI 1)))) none fun h3 => q_ob (q_put h3 (.ref x0) 0 4 0 (.int (nI 0))) none fun h4 => some (none, h4) else q_ob (q_getL σ (.ref x0) 0 1) none fun v5 => q_ob (q_cI (q_call 35 [.long v5, .int x2] σ)) none fun p6 => q_ob (q_getL p6.2 (.ref x0) 0 1) none fun v7 => q_ob (q_cL (q_call 33 [.long v7, .int x2, .int (q_min (nI 60) (p6.1 + (nI 5)))] p6.2)) none fun p8 => q_ob (q_put p8.2 (.ref x0) 0 1 1 (.long p8.1)) none fun h9 => q_run 93 2 [(0, .ref x0), (1, .ref x1), (2, .int (x2 + (nI 1)))] [] h9 := (q_run_un 93 [2] 36 ..).trans rfl
-- 94 X6_dawn
set_option maxRecDepth 100000 in
theorem e_94_0 (x0 : Nat) (σ : qH) : q_run 94 0 [(0, .ref x0)] [] σ = q_ob (q_getR σ (.ref x0) 6 3) none fun v1 => q_ob (q_getI σ (.ref v1) 0 5) none fun v2 => if v2 < (nI 999) then q_ob (q_getR σ (.ref x0) 6 5) none fun v3 => q_ob (q_getR σ (.ref x0) 6 3) none fun v4 => q_ob (q_cV (q_call 81 [.ref v3, .ref v4] σ)) none fun h5 => q_ob (q_getR h5 (.ref x0) 6 3) none fun v6 => q_ob (q_getR h5 (.ref x0) 6 2) none fun v7 => q_ob (q_cV (q_call 93 [.ref v6, .ref v7] h5)) none fun h8 => q_ob (q_getR h8 (.ref x0) 6 3) none fun v9 => q_ob (q_getI h8 (.ref v9) 0 5) none fun v10 => some (some (.int v10), h8) else some (some (.int (-2 : Int32)), σ) := (q_run_un 94 [] 23 ..).trans rfl
-- 95 X7_dawn
set_option maxRecDepth 100000 in
theorem e_95_0 (x0 : Nat) (σ : qH) : q_run 95 0 [(0, .ref x0)] [] σ = q_ob (q_getR σ (.ref x0) 7 5) none fun v1 => q_ob (q_aldI σ (.ref v1) 1 (nI 21)) none fun v2 => if v2 = (nI 999) then some (some (.int (-2 : Int32)), σ) else q_ob (q_cV (q_call 83 [.ref x0] σ)) none fun h3 => q_run 95 22 [(0, .ref x0), (1, .int (nI 0))] [] h3 := (q_run_un 95 [22, 70] 64 ..).trans rfl
set_option maxRecDepth 100000 in
theorem e_95_22 (x0 : Nat) (x1 : Int32) (σ : qH) : q_run 95 22 [(0, .ref x0), (1, .int x1)] [] σ = q_ob (q_getR σ (.ref x0) 7 3) none fun v1 => q_ob (q_aldI σ (.ref v1) 1 (nI 0)) none fun v2 => if v2 ≤ x1 then q_ob (q_getR σ (.ref x0) 7 5) none fun v3 => q_ob (q_astI σ (.ref v3) 1 (nI 20) (nI 0)) none fun h4 => q_ob (q_getR h4 (.ref x0) 7 5) none fun v5 => q_ob (q_aldI h4 (.ref v5) 1 (nI 21)) none fun v6 => q_ob (q_astI h4 (.ref v5) 1 (nI 21) (v6 + (nI 1))) none fun h7 => q_ob (q_getR h7 (.ref x0) 7 5) none fun v8 => q_ob (q_aldI h7 (.ref v8) 1 (nI 21)) none fun v9 => some (some (.int v9), h7) else q_ob (q_getR σ (.ref x0) 7 5) none fun v10 => q_ob (q_getR σ (.ref x0) 7 5) none fun v11 => q_ob (q_aldI σ (.ref v11) 1 ((nI 15) + x1)) none fun v12 => if v12 ≤ (nI 55) then q_ob (q_getR σ (.ref x0) 7 5) none fun v13 => q_ob (q_aldI σ (.ref v13) 1 ((nI 15) + x1)) none fun v14 => q_run 95 70 [(0, .ref x0), (1, .int x1)] [.int (v14 + (nI 5)), .int ((nI 15) + x1), .ref v10] σ else q_run 95 70 [(0, .ref x0), (1, .int x1)] [.int (nI 60), .int ((nI 15) + x1), .ref v10] σ := (q_run_un 95 [22, 70] 64 ..).trans rfl
set_option maxRecDepth 100000 in
theorem e_95_70 (x0 : Nat) (x1 : Int32) (s0 : Int32) (s1 : Int32) (s2 : Nat) (σ : qH) : q_run 95 70 [(0, .ref x0), (1, .int x1)] [.int s0, .int s1, .ref s2] σ = q_ob (q_astI σ (.ref s2) 1 s1 s0) none fun h1 => q_run 95 22 [(0, .ref x0), (1, .int (x1 + (nI 1)))] [] h1 := (q_run_un 95 [22, 70] 64 ..).trans rfl
-- 96 X2_giveBack
set_option maxRecDepth 100000 in
theorem e_96_0 (x0 : Nat) (x1 : Nat) (σ : qH) : q_run 96 0 [(0, .ref x0), (1, .ref x1)] [] σ = q_ob (q_getI σ (.ref x0) 2 1) none fun v1 => if (nI 10) = nI 0 then none else q_ob (q_getR σ (.ref x0) 2 0) none fun v2 => q_ob (q_cR (q_call 80 [.ref v2, .int (((v1 + (nI 10)) - (nI 1)) - ((v1 + (nI 10)) - (nI 1)) / (nI 10) * (nI 10))] σ)) none fun p3 => match p3.1 with | some a4 => q_ob (q_getI p3.2 (.ref x0) 2 2) none fun v5 => if v5 < (nI 1) then q_run 96 34 [] [] p3.2 else q_ob (q_cV (q_call 51 [.ref x1, .ref a4] p3.2)) none fun h6 => q_ob (q_put h6 (.ref x0) 2 1 0 (.int (((v1 + (nI 10)) - (nI 1)) - ((v1 + (nI 10)) - (nI 1)) / (nI 10) * (nI 10)))) none fun h7 => q_ob (q_getI h7 (.ref x0) 2 2) none fun v8 => q_ob (q_put h7 (.ref x0) 2 2 0 (.int (v8 - (nI 1)))) none fun h9 => some (some (.int (nI 1)), h9) | none => q_ob (q_getI p3.2 (.ref x0) 2 2) none fun v10 => if v10 < (nI 1) then q_run 96 34 [] [] p3.2 else q_run 96 34 [] [] p3.2 := (q_run_un 96 [34] 38 ..).trans rfl
set_option maxRecDepth 100000 in
theorem e_96_34  (σ : qH) : q_run 96 34 [] [] σ = some (some (.int (nI 0)), σ) := (q_run_un 96 [34] 38 ..).trans rfl
-- 97 X6_undo
set_option maxRecDepth 100000 in
theorem e_97_0 (x0 : Nat) (σ : qH) : q_run 97 0 [(0, .ref x0)] [] σ = q_ob (q_getR σ (.ref x0) 6 5) none fun v1 => q_ob (q_getR σ (.ref x0) 6 3) none fun v2 => q_ob (q_cI (q_call 96 [.ref v1, .ref v2] σ)) none fun p3 => if p3.1 = nI 0 then some (some (.int (-2 : Int32)), p3.2) else q_ob (q_getR p3.2 (.ref x0) 6 5) none fun v4 => q_ob (q_getI p3.2 (.ref v4) 2 2) none fun v5 => some (some (.int v5), p3.2) := (q_run_un 97 [] 14 ..).trans rfl
-- 98 X7_undo
set_option maxRecDepth 100000 in
theorem e_98_0 (x0 : Nat) (σ : qH) : q_run 98 0 [(0, .ref x0)] [] σ = q_ob (q_getI σ (.ref x0) 7 7) none fun v1 => if v1 = nI 0 then some (some (.int (-2 : Int32)), σ) else q_ob (q_getI σ (.ref x0) 7 7) none fun v2 => q_ob (q_put σ (.ref x0) 7 7 0 (.int (v2 - (nI 1)))) none fun h3 => q_run 98 22 [(0, .ref x0), (1, .int (nI 0))] [] h3 := (q_run_un 98 [22] 36 ..).trans rfl
set_option maxRecDepth 100000 in
theorem e_98_22 (x0 : Nat) (x1 : Int32) (σ : qH) : q_run 98 22 [(0, .ref x0), (1, .int x1)] [] σ = if (nI 22) ≤ x1 then q_ob (q_getI σ (.ref x0) 7 7) none fun v1 => some (some (.int v1), σ) else q_ob (q_getR σ (.ref x0) 7 5) none fun v2 => q_ob (q_getR σ (.ref x0) 7 6) none fun v3 => q_ob (q_getI σ (.ref x0) 7 7) none fun v4 => q_ob (q_aldI σ (.ref v3) 1 (((nI 22) * v4) + x1)) none fun v5 => q_ob (q_astI σ (.ref v2) 1 x1 v5) none fun h6 => q_run 98 22 [(0, .ref x0), (1, .int (x1 + (nI 1)))] [] h6 := (q_run_un 98 [22] 36 ..).trans rfl
-- 99 J7_fill
set_option maxRecDepth 100000 in
theorem e_99_0 (x0 : Nat) (x1 : Int64) (σ : qH) : q_run 99 0 [(0, .ref x0), (1, .long x1)] [] σ = q_ob (q_alen σ (.ref x0) 2) none fun v1 => q_run 99 6 [(0, .ref x0), (1, .long x1), (3, .int (nI 0)), (4, .int v1)] [] σ := (q_run_un 99 [6] 17 ..).trans rfl
set_option maxRecDepth 100000 in
theorem e_99_6 (x0 : Nat) (x1 : Int64) (x3 : Int32) (x4 : Int32) (σ : qH) : q_run 99 6 [(0, .ref x0), (1, .long x1), (3, .int x3), (4, .int x4)] [] σ = if x4 ≤ x3 then some (none, σ) else q_ob (q_astL σ (.ref x0) x3 x1) none fun h1 => q_run 99 6 [(0, .ref x0), (1, .long x1), (3, .int (x3 + (nI 1))), (4, .int x4)] [] h1 := (q_run_un 99 [6] 17 ..).trans rfl
-- 100 X5_reach
set_option maxRecDepth 100000 in
theorem e_100_0 (x0 : Nat) (x1 : Int32) (x2 : Int32) (σ : qH) : q_run 100 0 [(0, .ref x0), (1, .int x1), (2, .int x2)] [] σ = if (x1 >>> ((nI 6) &&& 31)) < nI 0 then q_run 100 37 [] [] σ else q_ob (q_getR σ (.ref x0) 5 1) none fun v1 => q_ob (q_alen σ (.ref v1) 2) none fun v2 => if v2 ≤ (x1 >>> ((nI 6) &&& 31)) then q_run 100 37 [] [] σ else q_ob (q_getI σ (.ref x0) 5 2) none fun v3 => if v3 < nI 0 then q_run 100 37 [] [] σ else q_ob (q_getI σ (.ref x0) 5 2) none fun v4 => q_ob (q_getR σ (.ref x0) 5 0) none fun v5 => q_ob (q_alen σ (.ref v5) 1) none fun v6 => if v4 < v6 then q_ob (q_getR σ (.ref x0) 5 1) none fun v7 => q_ob (q_aldL σ (.ref v7) (x1 >>> ((nI 6) &&& 31))) none fun v8 => if (lg_cmp ((v8 >>> (Int32.toInt64 (x1 &&& (nI 63)) &&& 63)) &&& (lN 1)) (lN 1)) = nI 0 then some (some (.int (nI 0)), σ) else q_ob (q_getR σ (.ref x0) 5 1) none fun v9 => q_ob (q_aldL σ (.ref v9) (x1 >>> ((nI 6) &&& 31))) none fun v10 => q_ob (q_astL σ (.ref v9) (x1 >>> ((nI 6) &&& 31)) (v10 ||| ((lN 1) <<< (Int32.toInt64 (x1 &&& (nI 63)) &&& 63)))) none fun h11 => q_ob (q_getR h11 (.ref x0) 5 0) none fun v12 => q_ob (q_getI h11 (.ref x0) 5 2) none fun v13 => q_ob (q_astI h11 (.ref v12) 1 v13 ((x2 <<< ((nI 15) &&& 31)) ||| x1)) none fun h14 => q_ob (q_getI h14 (.ref x0) 5 2) none fun v15 => q_ob (q_put h14 (.ref x0) 5 2 0 (.int (v15 + (nI 1)))) none fun h16 => some (some (.int (nI 1)), h16) else q_run 100 37 [] [] σ := (q_run_un 100 [37] 69 ..).trans rfl
set_option maxRecDepth 100000 in
theorem e_100_37  (σ : qH) : q_run 100 37 [] [] σ = some (some (.int (nI 0)), σ) := (q_run_un 100 [37] 69 ..).trans rfl
-- 101 X5_arrive
set_option maxRecDepth 100000 in
theorem e_101_0 (x0 : Nat) (x1 : Int32) (x2 : Int32) (x3 : Int32) (σ : qH) : q_run 101 0 [(0, .ref x0), (1, .int x1), (2, .int x2), (3, .int x3)] [] σ = q_ob (q_cI (q_call 100 [.ref x0, .int x1, .int x2] σ)) none fun p1 => if p1.1 = nI 0 then some (none, p1.2) else if x1 = x3 then q_ob (q_getI p1.2 (.ref x0) 5 4) none fun v2 => if v2 = (-9 : Int32) then q_ob (q_put p1.2 (.ref x0) 5 4 0 (.int x2)) none fun h3 => some (none, h3) else some (none, p1.2) else some (none, p1.2) := (q_run_un 101 [] 18 ..).trans rfl
-- 102 X5_spread
set_option maxRecDepth 100000 in
theorem e_102_0 (x0 : Nat) (x1 : Nat) (x2 : Int32) (x3 : Int32) (σ : qH) : q_run 102 0 [(0, .ref x0), (1, .ref x1), (2, .int x2), (3, .int x3)] [] σ = if x3 < nI 0 then some (none, σ) else q_ob (q_getR σ (.ref x0) 5 0) none fun v1 => q_ob (q_alen σ (.ref v1) 1) none fun v2 => if x3 < v2 then q_ob (q_getR σ (.ref x0) 5 0) none fun v3 => q_ob (q_aldI σ (.ref v3) 1 x3) none fun v4 => q_ob (q_getR σ (.ref x0) 5 0) none fun v5 => q_ob (q_aldI σ (.ref v5) 1 x3) none fun v6 => q_ob (q_cI (q_call 54 [.ref x1, .int (v4 &&& (nI 32767)), .int x2] σ)) none fun p7 => q_run 102 49 [(0, .ref x0), (1, .ref x1), (4, .int (v4 &&& (nI 32767))), (5, .int (v6 >>> ((nI 15) &&& 31))), (6, .int p7.1), (7, .int (nI 0))] [] p7.2 else some (none, σ) := (q_run_un 102 [49, 80, 127, 148, 154] 83 ..).trans rfl
set_option maxRecDepth 100000 in
theorem e_102_49 (x0 : Nat) (x1 : Nat) (x4 : Int32) (x5 : Int32) (x6 : Int32) (x7 : Int32) (σ : qH) : q_run 102 49 [(0, .ref x0), (1, .ref x1), (4, .int x4), (5, .int x5), (6, .int x6), (7, .int x7)] [] σ = q_ob (q_getI σ (.ref x1) 3 1) none fun v1 => if v1 ≤ x7 then some (none, σ) else q_ob (q_getL σ (.ref x1) 3 6) none fun v2 => q_ob (q_cI (q_call 49 [.int x4, .int x7] σ)) none fun p3 => q_ob (q_cI (q_call 35 [.long v2, .int p3.1] p3.2)) none fun p4 => q_run 102 80 [(0, .ref x0), (1, .ref x1), (4, .int x4), (5, .int x5), (6, .int x6), (7, .int x7), (8, .int (p4.1 &&& x6)), (9, .int (nI 0))] [] p4.2 := (q_run_un 102 [49, 80, 127, 148, 154] 83 ..).trans rfl
set_option maxRecDepth 100000 in
theorem e_102_80 (x0 : Nat) (x1 : Nat) (x4 : Int32) (x5 : Int32) (x6 : Int32) (x7 : Int32) (x8 : Int32) (x9 : Int32) (σ : qH) : q_run 102 80 [(0, .ref x0), (1, .ref x1), (4, .int x4), (5, .int x5), (6, .int x6), (7, .int x7), (8, .int x8), (9, .int x9)] [] σ = q_ob (q_getI σ (.ref x1) 3 0) none fun v1 => if v1 ≤ x9 then q_run 102 154 [(0, .ref x0), (1, .ref x1), (4, .int x4), (5, .int x5), (6, .int x6), (7, .int x7)] [] σ else if (x8 >>> (x9 &&& 31)) = nI 0 then q_run 102 154 [(0, .ref x0), (1, .ref x1), (4, .int x4), (5, .int x5), (6, .int x6), (7, .int x7)] [] σ else q_ob (q_cI (q_call 52 [.int x8, .int x9] σ)) none fun p2 => if p2.1 = nI 0 then q_run 102 148 [(0, .ref x0), (1, .ref x1), (4, .int x4), (5, .int x5), (6, .int x6), (7, .int x7), (8, .int x8), (9, .int x9)] [] p2.2 else if x5 = (nI 63) then q_run 102 127 [(0, .ref x0), (1, .ref x1), (4, .int x4), (5, .int x5), (6, .int x6), (7, .int x7), (8, .int x8), (9, .int x9)] [.int (((nI 10) * x7) + x9)] p2.2 else q_run 102 127 [(0, .ref x0), (1, .ref x1), (4, .int x4), (5, .int x5), (6, .int x6), (7, .int x7), (8, .int x8), (9, .int x9)] [.int x5] p2.2 := (q_run_un 102 [49, 80, 127, 148, 154] 83 ..).trans rfl
set_option maxRecDepth 100000 in
theorem e_102_127 (x0 : Nat) (x1 : Nat) (x4 : Int32) (x5 : Int32) (x6 : Int32) (x7 : Int32) (x8 : Int32) (x9 : Int32) (s0 : Int32) (σ : qH) : q_run 102 127 [(0, .ref x0), (1, .ref x1), (4, .int x4), (5, .int x5), (6, .int x6), (7, .int x7), (8, .int x8), (9, .int x9)] [.int s0] σ = q_ob (q_cI (q_call 37 [.int x4, .int x7, .int x9] σ)) none fun p1 => q_ob (q_getI p1.2 (.ref x1) 3 7) none fun v2 => q_ob (q_cV (q_call 101 [.ref x0, .int p1.1, .int s0, .int v2] p1.2)) none fun h3 => q_run 102 148 [(0, .ref x0), (1, .ref x1), (4, .int x4), (5, .int x5), (6, .int x6), (7, .int x7), (8, .int x8), (9, .int x9)] [] h3 := (q_run_un 102 [49, 80, 127, 148, 154] 83 ..).trans rfl
set_option maxRecDepth 100000 in
theorem e_102_148 (x0 : Nat) (x1 : Nat) (x4 : Int32) (x5 : Int32) (x6 : Int32) (x7 : Int32) (x8 : Int32) (x9 : Int32) (σ : qH) : q_run 102 148 [(0, .ref x0), (1, .ref x1), (4, .int x4), (5, .int x5), (6, .int x6), (7, .int x7), (8, .int x8), (9, .int x9)] [] σ = q_run 102 80 [(0, .ref x0), (1, .ref x1), (4, .int x4), (5, .int x5), (6, .int x6), (7, .int x7), (8, .int x8), (9, .int (x9 + (nI 1)))] [] σ := (q_run_un 102 [49, 80, 127, 148, 154] 83 ..).trans rfl
set_option maxRecDepth 100000 in
theorem e_102_154 (x0 : Nat) (x1 : Nat) (x4 : Int32) (x5 : Int32) (x6 : Int32) (x7 : Int32) (σ : qH) : q_run 102 154 [(0, .ref x0), (1, .ref x1), (4, .int x4), (5, .int x5), (6, .int x6), (7, .int x7)] [] σ = q_run 102 49 [(0, .ref x0), (1, .ref x1), (4, .int x4), (5, .int x5), (6, .int x6), (7, .int (x7 + (nI 1)))] [] σ := (q_run_un 102 [49, 80, 127, 148, 154] 83 ..).trans rfl
-- 103 X5_search
set_option maxRecDepth 100000 in
theorem e_103_0 (x0 : Nat) (x1 : Nat) (x2 : Nat) (σ : qH) : q_run 103 0 [(0, .ref x0), (1, .ref x1), (2, .ref x2)] [] σ = q_ob (q_put σ (.ref x0) 5 3 0 (.int (-9 : Int32))) none fun h1 => q_ob (q_put h1 (.ref x0) 5 4 0 (.int (-9 : Int32))) none fun h2 => q_ob (q_getI h2 (.ref x2) 0 0) none fun v3 => q_ob (q_getI h2 (.ref x1) 3 7) none fun v4 => if v3 = v4 then q_ob (q_put h2 (.ref x0) 5 3 0 (.int (nI 0))) none fun h10 => some (none, h10) else q_ob (q_getR h2 (.ref x0) 5 1) none fun v5 => q_ob (q_cV (q_call 99 [.ref v5, .long (lN 0)] h2)) none fun h6 => q_ob (q_put h6 (.ref x0) 5 2 0 (.int (nI 0))) none fun h7 => q_ob (q_getI h7 (.ref x2) 0 0) none fun v8 => q_ob (q_cI (q_call 100 [.ref x0, .int v8, .int (nI 63)] h7)) none fun p9 => q_run 103 58 [(0, .ref x0), (1, .ref x1), (2, .ref x2), (3, .int (nI 0)), (4, .int (nI 1))] [] p9.2 := (q_run_un 103 [58, 89, 120, 137] 75 ..).trans rfl
set_option maxRecDepth 100000 in
theorem e_103_58 (x0 : Nat) (x1 : Nat) (x2 : Nat) (x3 : Int32) (x4 : Int32) (σ : qH) : q_run 103 58 [(0, .ref x0), (1, .ref x1), (2, .ref x2), (3, .int x3), (4, .int x4)] [] σ = if (nI 3125) < x4 then some (none, σ) else q_ob (q_getI σ (.ref x0) 5 2) none fun v1 => if v1 ≤ x3 then some (none, σ) else q_ob (q_getI σ (.ref x0) 5 4) none fun v2 => if v2 = (-9 : Int32) then q_ob (q_getI σ (.ref x0) 5 2) none fun v3 => q_run 103 89 [(0, .ref x0), (1, .ref x1), (2, .ref x2), (3, .int x3), (4, .int x4), (5, .int v3)] [] σ else some (none, σ) := (q_run_un 103 [58, 89, 120, 137] 75 ..).trans rfl
set_option maxRecDepth 100000 in
theorem e_103_89 (x0 : Nat) (x1 : Nat) (x2 : Nat) (x3 : Int32) (x4 : Int32) (x5 : Int32) (σ : qH) : q_run 103 89 [(0, .ref x0), (1, .ref x1), (2, .ref x2), (3, .int x3), (4, .int x4), (5, .int x5)] [] σ = if x5 ≤ x3 then q_run 103 120 [(0, .ref x0), (1, .ref x1), (2, .ref x2), (3, .int x3), (4, .int x4)] [] σ else q_ob (q_getI σ (.ref x0) 5 4) none fun v1 => if v1 = (-9 : Int32) then q_ob (q_getI σ (.ref x2) 0 4) none fun v2 => q_ob (q_cV (q_call 102 [.ref x0, .ref x1, .int v2, .int x3] σ)) none fun h3 => q_run 103 89 [(0, .ref x0), (1, .ref x1), (2, .ref x2), (3, .int (x3 + (nI 1))), (4, .int x4), (5, .int x5)] [] h3 else q_run 103 120 [(0, .ref x0), (1, .ref x1), (2, .ref x2), (3, .int x3), (4, .int x4)] [] σ := (q_run_un 103 [58, 89, 120, 137] 75 ..).trans rfl
set_option maxRecDepth 100000 in
theorem e_103_120 (x0 : Nat) (x1 : Nat) (x2 : Nat) (x3 : Int32) (x4 : Int32) (σ : qH) : q_run 103 120 [(0, .ref x0), (1, .ref x1), (2, .ref x2), (3, .int x3), (4, .int x4)] [] σ = q_ob (q_getI σ (.ref x0) 5 4) none fun v1 => if v1 = (-9 : Int32) then q_run 103 137 [(0, .ref x0), (1, .ref x1), (2, .ref x2), (3, .int x3), (4, .int x4)] [.int (-9 : Int32), .ref x0] σ else q_run 103 137 [(0, .ref x0), (1, .ref x1), (2, .ref x2), (3, .int x3), (4, .int x4)] [.int x4, .ref x0] σ := (q_run_un 103 [58, 89, 120, 137] 75 ..).trans rfl
set_option maxRecDepth 100000 in
theorem e_103_137 (x0 : Nat) (x1 : Nat) (x2 : Nat) (x3 : Int32) (x4 : Int32) (s0 : Int32) (s1 : Nat) (σ : qH) : q_run 103 137 [(0, .ref x0), (1, .ref x1), (2, .ref x2), (3, .int x3), (4, .int x4)] [.int s0, .ref s1] σ = q_ob (q_put σ (.ref s1) 5 3 0 (.int s0)) none fun h1 => q_run 103 58 [(0, .ref x0), (1, .ref x1), (2, .ref x2), (3, .int x3), (4, .int (x4 + (nI 1)))] [] h1 := (q_run_un 103 [58, 89, 120, 137] 75 ..).trans rfl
-- 104 X6_back
set_option maxRecDepth 100000 in
theorem e_104_0 (x0 : Nat) (x1 : Int32) (σ : qH) : q_run 104 0 [(0, .ref x0), (1, .int x1)] [] σ = if x1 = nI 0 then q_run 104 11 [(0, .ref x0), (1, .int x1)] [] σ else if x1 = (nI 1) then q_run 104 11 [(0, .ref x0), (1, .int x1)] [] σ else some (some (.int (-1 : Int32)), σ) := (q_run_un 104 [11] 26 ..).trans rfl
set_option maxRecDepth 100000 in
theorem e_104_11 (x0 : Nat) (x1 : Int32) (σ : qH) : q_run 104 11 [(0, .ref x0), (1, .int x1)] [] σ = q_ob (q_getR σ (.ref x0) 6 9) none fun v1 => q_ob (q_getR σ (.ref x0) 6 2) none fun v2 => q_ob (q_getR σ (.ref x0) 6 3) none fun v3 => q_ob (q_cV (q_call 103 [.ref v1, .ref v2, .ref v3] σ)) none fun h4 => if x1 = nI 0 then q_ob (q_getR h4 (.ref x0) 6 9) none fun v7 => q_ob (q_getI h4 (.ref v7) 5 3) none fun v8 => some (some (.int v8), h4) else q_ob (q_getR h4 (.ref x0) 6 9) none fun v5 => q_ob (q_getI h4 (.ref v5) 5 4) none fun v6 => some (some (.int v6), h4) := (q_run_un 104 [11] 26 ..).trans rfl
-- 105 X7_codeNow
set_option maxRecDepth 100000 in
theorem e_105_0 (x0 : Nat) (σ : qH) : q_run 105 0 [(0, .ref x0)] [] σ = q_ob (q_getR σ (.ref x0) 7 3) none fun v1 => q_ob (q_aldI σ (.ref v1) 1 (nI 1)) none fun v2 => q_run 105 11 [(0, .ref x0), (1, .int (nI 0)), (2, .int (v2 - (nI 1)))] [] σ := (q_run_un 105 [11] 26 ..).trans rfl
set_option maxRecDepth 100000 in
theorem e_105_11 (x0 : Nat) (x1 : Int32) (x2 : Int32) (σ : qH) : q_run 105 11 [(0, .ref x0), (1, .int x1), (2, .int x2)] [] σ = if x2 < nI 0 then some (some (.int x1), σ) else q_ob (q_getR σ (.ref x0) 7 5) none fun v1 => q_ob (q_aldI σ (.ref v1) 1 x2) none fun v2 => q_run 105 11 [(0, .ref x0), (1, .int (((nI 5) * x1) + v2)), (2, .int (x2 + (-1 : Int32)))] [] σ := (q_run_un 105 [11] 26 ..).trans rfl
-- 106 X7_isIn
set_option maxRecDepth 100000 in
theorem e_106_0 (x0 : Nat) (x1 : Int32) (σ : qH) : q_run 106 0 [(0, .ref x0), (1, .int x1)] [] σ = if (nI 64) = nI 0 then none else q_ob (q_aldL σ (.ref x0) (x1 / (nI 64))) none fun v1 => if (nI 64) = nI 0 then none else if (lg_cmp ((v1 >>> (Int32.toInt64 (x1 - x1 / (nI 64) * (nI 64)) &&& 63)) &&& (lN 1)) (lN 1)) = nI 0 then some (some (.int (nI 1)), σ) else some (some (.int (nI 0)), σ) := (q_run_un 106 [] 20 ..).trans rfl
-- 107 X7_places
set_option maxRecDepth 100000 in
theorem e_107_0 (x0 : Nat) (x1 : Int32) (σ : qH) : q_run 107 0 [(0, .ref x0), (1, .int x1)] [] σ = q_run 107 4 [(0, .ref x0), (2, .int x1), (3, .int (nI 0))] [] σ := (q_run_un 107 [4] 26 ..).trans rfl
set_option maxRecDepth 100000 in
theorem e_107_4 (x0 : Nat) (x2 : Int32) (x3 : Int32) (σ : qH) : q_run 107 4 [(0, .ref x0), (2, .int x2), (3, .int x3)] [] σ = q_ob (q_getR σ (.ref x0) 7 3) none fun v1 => q_ob (q_aldI σ (.ref v1) 1 (nI 1)) none fun v2 => if v2 ≤ x3 then some (none, σ) else q_ob (q_getR σ (.ref x0) 7 5) none fun v3 => if (nI 5) = nI 0 then none else q_ob (q_astI σ (.ref v3) 1 x3 (x2 - x2 / (nI 5) * (nI 5))) none fun h4 => if (nI 5) = nI 0 then none else q_run 107 4 [(0, .ref x0), (2, .int (x2 / (nI 5))), (3, .int (x3 + (nI 1)))] [] h4 := (q_run_un 107 [4] 26 ..).trans rfl
-- 108 X7_firstDrive
set_option maxRecDepth 100000 in
theorem e_108_0 (x0 : Nat) (σ : qH) : q_run 108 0 [(0, .ref x0)] [] σ = q_run 108 2 [(0, .ref x0), (1, .int (nI 0))] [] σ := (q_run_un 108 [2, 21, 54, 78, 79] 68 ..).trans rfl
set_option maxRecDepth 100000 in
theorem e_108_2 (x0 : Nat) (x1 : Int32) (σ : qH) : q_run 108 2 [(0, .ref x0), (1, .int x1)] [] σ = q_ob (q_getR σ (.ref x0) 7 3) none fun v1 => q_ob (q_aldI σ (.ref v1) 1 (nI 1)) none fun v2 => if v2 ≤ x1 then some (some (.int (-9 : Int32)), σ) else q_ob (q_getR σ (.ref x0) 7 5) none fun v3 => q_ob (q_aldI σ (.ref v3) 1 x1) none fun v4 => q_run 108 21 [(0, .ref x0), (1, .int x1), (2, .int v4), (3, .int (nI 0))] [] σ := (q_run_un 108 [2, 21, 54, 78, 79] 68 ..).trans rfl
set_option maxRecDepth 100000 in
theorem e_108_21 (x0 : Nat) (x1 : Int32) (x2 : Int32) (x3 : Int32) (σ : qH) : q_run 108 21 [(0, .ref x0), (1, .int x1), (2, .int x2), (3, .int x3)] [] σ = q_ob (q_getR σ (.ref x0) 7 3) none fun v1 => q_ob (q_aldI σ (.ref v1) 1 (nI 0)) none fun v2 => if v2 ≤ x3 then q_run 108 2 [(0, .ref x0), (1, .int (x1 + (nI 1)))] [] σ else q_ob (q_cI (q_call 86 [.ref x0, .int x1, .int x3] σ)) none fun p3 => q_ob (q_getR p3.2 (.ref x0) 7 5) none fun v4 => if p3.1 = nI 0 then q_run 108 54 [(0, .ref x0), (1, .int x1), (2, .int x2), (3, .int x3), (4, .int p3.1)] [.int x2, .int x1, .ref v4] p3.2 else q_run 108 54 [(0, .ref x0), (1, .int x1), (2, .int x2), (3, .int x3), (4, .int p3.1)] [.int x3, .int x1, .ref v4] p3.2 := (q_run_un 108 [2, 21, 54, 78, 79] 68 ..).trans rfl
set_option maxRecDepth 100000 in
theorem e_108_54 (x0 : Nat) (x1 : Int32) (x2 : Int32) (x3 : Int32) (x4 : Int32) (s0 : Int32) (s1 : Int32) (s2 : Nat) (σ : qH) : q_run 108 54 [(0, .ref x0), (1, .int x1), (2, .int x2), (3, .int x3), (4, .int x4)] [.int s0, .int s1, .ref s2] σ = q_ob (q_astI σ (.ref s2) 1 s1 s0) none fun h1 => if x4 = nI 0 then q_run 108 78 [(0, .ref x0), (1, .int x1), (2, .int x2), (3, .int x3)] [] h1 else q_ob (q_getR h1 (.ref x0) 7 18) none fun v2 => q_ob (q_cI (q_call 105 [.ref x0] h1)) none fun p3 => q_ob (q_cI (q_call 106 [.ref v2, .int p3.1] p3.2)) none fun p4 => if p4.1 = nI 0 then q_run 108 78 [(0, .ref x0), (1, .int x1), (2, .int x2), (3, .int x3)] [] p4.2 else q_run 108 79 [(0, .ref x0), (1, .int x1), (2, .int x2), (3, .int x3)] [.int (nI 1)] p4.2 := (q_run_un 108 [2, 21, 54, 78, 79] 68 ..).trans rfl
set_option maxRecDepth 100000 in
theorem e_108_78 (x0 : Nat) (x1 : Int32) (x2 : Int32) (x3 : Int32) (σ : qH) : q_run 108 78 [(0, .ref x0), (1, .int x1), (2, .int x2), (3, .int x3)] [] σ = q_run 108 79 [(0, .ref x0), (1, .int x1), (2, .int x2), (3, .int x3)] [.int (nI 0)] σ := (q_run_un 108 [2, 21, 54, 78, 79] 68 ..).trans rfl
set_option maxRecDepth 100000 in
theorem e_108_79 (x0 : Nat) (x1 : Int32) (x2 : Int32) (x3 : Int32) (s0 : Int32) (σ : qH) : q_run 108 79 [(0, .ref x0), (1, .int x1), (2, .int x2), (3, .int x3)] [.int s0] σ = q_ob (q_getR σ (.ref x0) 7 5) none fun v1 => q_ob (q_astI σ (.ref v1) 1 x1 x2) none fun h2 => if s0 = nI 0 then q_run 108 21 [(0, .ref x0), (1, .int x1), (2, .int x2), (3, .int (x3 + (nI 1)))] [] h2 else some (some (.int (((nI 10) * x1) + x3)), h2) := (q_run_un 108 [2, 21, 54, 78, 79] 68 ..).trans rfl
-- 109 X7_back
set_option maxRecDepth 100000 in
theorem e_109_0 (x0 : Nat) (x1 : Int32) (σ : qH) : q_run 109 0 [(0, .ref x0), (1, .int x1)] [] σ = q_ob (q_cI (q_call 8 [.int x1, .int (nI 0), .int (nI 1)] σ)) none fun p1 => if p1.1 = nI 0 then some (some (.int (-1 : Int32)), p1.2) else q_ob (q_cV (q_call 63 [.ref x0] p1.2)) none fun h2 => q_ob (q_cI (q_call 105 [.ref x0] h2)) none fun p3 => q_run 109 22 [(0, .ref x0), (1, .int x1), (2, .int p3.1), (3, .int (nI 0))] [] p3.2 := (q_run_un 109 [22, 43, 109, 132, 154, 184, 215, 251, 252, 297, 309] 194 ..).trans rfl
set_option maxRecDepth 100000 in
theorem e_109_22 (x0 : Nat) (x1 : Int32) (x2 : Int32) (x3 : Int32) (σ : qH) : q_run 109 22 [(0, .ref x0), (1, .int x1), (2, .int x2), (3, .int x3)] [] σ = if (nI 49) ≤ x3 then q_run 109 43 [(0, .ref x0), (1, .int x1), (2, .int x2), (3, .int (nI 0))] [] σ else q_ob (q_getR σ (.ref x0) 7 17) none fun v1 => q_ob (q_astL σ (.ref v1) x3 (lN 0)) none fun h2 => q_run 109 22 [(0, .ref x0), (1, .int x1), (2, .int x2), (3, .int (x3 + (nI 1)))] [] h2 := (q_run_un 109 [22, 43, 109, 132, 154, 184, 215, 251, 252, 297, 309] 194 ..).trans rfl
set_option maxRecDepth 100000 in
theorem e_109_43 (x0 : Nat) (x1 : Int32) (x2 : Int32) (x3 : Int32) (σ : qH) : q_run 109 43 [(0, .ref x0), (1, .int x1), (2, .int x2), (3, .int x3)] [] σ = q_ob (q_getR σ (.ref x0) 7 3) none fun v1 => q_ob (q_aldI σ (.ref v1) 1 (nI 1)) none fun v2 => if v2 ≤ x3 then q_ob (q_getR σ (.ref x0) 7 17) none fun v3 => q_ob (q_cI (q_call 105 [.ref x0] σ)) none fun p4 => if (nI 64) = nI 0 then none else q_ob (q_aldL p4.2 (.ref v3) (p4.1 / (nI 64))) none fun v5 => q_ob (q_cI (q_call 105 [.ref x0] p4.2)) none fun p6 => if (nI 64) = nI 0 then none else q_ob (q_astL p6.2 (.ref v3) (p4.1 / (nI 64)) (v5 ||| ((lN 1) <<< (Int32.toInt64 (p6.1 - p6.1 / (nI 64) * (nI 64)) &&& 63)))) none fun h7 => q_run 109 109 [(0, .ref x0), (1, .int x1), (2, .int x2), (3, .int (nI 0)), (4, .int (nI 1)), (5, .int (nI 1)), (6, .int (nI 0))] [] h7 else q_ob (q_getR σ (.ref x0) 7 5) none fun v8 => q_ob (q_getR σ (.ref x0) 7 3) none fun v9 => q_ob (q_aldI σ (.ref v9) 1 ((nI 20) + x3)) none fun v10 => q_ob (q_astI σ (.ref v8) 1 x3 v10) none fun h11 => q_run 109 43 [(0, .ref x0), (1, .int x1), (2, .int x2), (3, .int (x3 + (nI 1)))] [] h11 := (q_run_un 109 [22, 43, 109, 132, 154, 184, 215, 251, 252, 297, 309] 194 ..).trans rfl
set_option maxRecDepth 100000 in
theorem e_109_109 (x0 : Nat) (x1 : Int32) (x2 : Int32) (x3 : Int32) (x4 : Int32) (x5 : Int32) (x6 : Int32) (σ : qH) : q_run 109 109 [(0, .ref x0), (1, .int x1), (2, .int x2), (3, .int x3), (4, .int x4), (5, .int x5), (6, .int x6)] [] σ = q_ob (q_getR σ (.ref x0) 7 3) none fun v1 => q_ob (q_aldI σ (.ref v1) 1 (nI 1)) none fun v2 => if v2 ≤ x6 then q_run 109 132 [(0, .ref x0), (1, .int x1), (2, .int x2), (3, .int x3), (4, .int x4), (5, .int x5)] [] σ else q_run 109 109 [(0, .ref x0), (1, .int x1), (2, .int x2), (3, .int x3), (4, .int x4), (5, .int (x5 * (nI 5))), (6, .int (x6 + (nI 1)))] [] σ := (q_run_un 109 [22, 43, 109, 132, 154, 184, 215, 251, 252, 297, 309] 194 ..).trans rfl
set_option maxRecDepth 100000 in
theorem e_109_132 (x0 : Nat) (x1 : Int32) (x2 : Int32) (x3 : Int32) (x4 : Int32) (x5 : Int32) (σ : qH) : q_run 109 132 [(0, .ref x0), (1, .int x1), (2, .int x2), (3, .int x3), (4, .int x4), (5, .int x5)] [] σ = if x4 = nI 0 then q_run 109 309 [(0, .ref x0), (1, .int x1), (2, .int x2), (3, .int x3)] [] σ else q_ob (q_getR σ (.ref x0) 7 17) none fun v1 => q_ob (q_cI (q_call 106 [.ref v1, .int x2] σ)) none fun p2 => if p2.1 = nI 0 then q_run 109 154 [(0, .ref x0), (1, .int x1), (2, .int x2), (3, .int x3), (4, .int (nI 0)), (5, .int x5), (6, .int (nI 0))] [] p2.2 else q_run 109 309 [(0, .ref x0), (1, .int x1), (2, .int x2), (3, .int x3)] [] p2.2 := (q_run_un 109 [22, 43, 109, 132, 154, 184, 215, 251, 252, 297, 309] 194 ..).trans rfl
set_option maxRecDepth 100000 in
theorem e_109_154 (x0 : Nat) (x1 : Int32) (x2 : Int32) (x3 : Int32) (x4 : Int32) (x5 : Int32) (x6 : Int32) (σ : qH) : q_run 109 154 [(0, .ref x0), (1, .int x1), (2, .int x2), (3, .int x3), (4, .int x4), (5, .int x5), (6, .int x6)] [] σ = if (nI 49) ≤ x6 then q_run 109 184 [(0, .ref x0), (1, .int x1), (2, .int x2), (3, .int x3), (4, .int x4), (5, .int x5), (6, .int (nI 0))] [] σ else q_ob (q_getR σ (.ref x0) 7 18) none fun v1 => q_ob (q_getR σ (.ref x0) 7 17) none fun v2 => q_ob (q_aldL σ (.ref v2) x6) none fun v3 => q_ob (q_astL σ (.ref v1) x6 v3) none fun h4 => q_run 109 154 [(0, .ref x0), (1, .int x1), (2, .int x2), (3, .int x3), (4, .int x4), (5, .int x5), (6, .int (x6 + (nI 1)))] [] h4 := (q_run_un 109 [22, 43, 109, 132, 154, 184, 215, 251, 252, 297, 309] 194 ..).trans rfl
set_option maxRecDepth 100000 in
theorem e_109_184 (x0 : Nat) (x1 : Int32) (x2 : Int32) (x3 : Int32) (x4 : Int32) (x5 : Int32) (x6 : Int32) (σ : qH) : q_run 109 184 [(0, .ref x0), (1, .int x1), (2, .int x2), (3, .int x3), (4, .int x4), (5, .int x5), (6, .int x6)] [] σ = if x5 ≤ x6 then q_run 109 132 [(0, .ref x0), (1, .int x1), (2, .int x2), (3, .int (x3 + (nI 1))), (4, .int x4), (5, .int x5)] [] σ else q_ob (q_getR σ (.ref x0) 7 17) none fun v1 => q_ob (q_cI (q_call 106 [.ref v1, .int x6] σ)) none fun p2 => if p2.1 = nI 0 then q_ob (q_cV (q_call 107 [.ref x0, .int x6] p2.2)) none fun h3 => q_run 109 215 [(0, .ref x0), (1, .int x1), (2, .int x2), (3, .int x3), (4, .int x4), (5, .int x5), (6, .int x6), (7, .int (nI 1)), (8, .int (nI 0))] [] h3 else q_run 109 297 [(0, .ref x0), (1, .int x1), (2, .int x2), (3, .int x3), (4, .int x4), (5, .int x5), (6, .int x6)] [] p2.2 := (q_run_un 109 [22, 43, 109, 132, 154, 184, 215, 251, 252, 297, 309] 194 ..).trans rfl
set_option maxRecDepth 100000 in
theorem e_109_215 (x0 : Nat) (x1 : Int32) (x2 : Int32) (x3 : Int32) (x4 : Int32) (x5 : Int32) (x6 : Int32) (x7 : Int32) (x8 : Int32) (σ : qH) : q_run 109 215 [(0, .ref x0), (1, .int x1), (2, .int x2), (3, .int x3), (4, .int x4), (5, .int x5), (6, .int x6), (7, .int x7), (8, .int x8)] [] σ = q_ob (q_getR σ (.ref x0) 7 3) none fun v1 => q_ob (q_aldI σ (.ref v1) 1 (nI 1)) none fun v2 => if v2 ≤ x8 then if x7 = nI 0 then q_run 109 297 [(0, .ref x0), (1, .int x1), (2, .int x2), (3, .int x3), (4, .int x4), (5, .int x5), (6, .int x6)] [] σ else q_ob (q_cI (q_call 108 [.ref x0] σ)) none fun p3 => if p3.1 = (-9 : Int32) then q_run 109 297 [(0, .ref x0), (1, .int x1), (2, .int x2), (3, .int x3), (4, .int x4), (5, .int x5), (6, .int x6)] [] p3.2 else q_ob (q_getR p3.2 (.ref x0) 7 17) none fun v4 => if (nI 64) = nI 0 then none else q_ob (q_aldL p3.2 (.ref v4) (x6 / (nI 64))) none fun v5 => if (nI 64) = nI 0 then none else q_ob (q_astL p3.2 (.ref v4) (x6 / (nI 64)) (v5 ||| ((lN 1) <<< (Int32.toInt64 (x6 - x6 / (nI 64) * (nI 64)) &&& 63)))) none fun h6 => q_run 109 297 [(0, .ref x0), (1, .int x1), (2, .int x2), (3, .int x3), (4, .int (nI 1)), (5, .int x5), (6, .int x6)] [] h6 else if x7 = nI 0 then q_run 109 251 [(0, .ref x0), (1, .int x1), (2, .int x2), (3, .int x3), (4, .int x4), (5, .int x5), (6, .int x6), (8, .int x8)] [] σ else q_ob (q_getR σ (.ref x0) 7 5) none fun v7 => q_ob (q_aldI σ (.ref v7) 1 x8) none fun v8 => q_ob (q_getR σ (.ref x0) 7 3) none fun v9 => q_ob (q_aldI σ (.ref v9) 1 (nI 0)) none fun v10 => if v10 ≤ v8 then q_run 109 251 [(0, .ref x0), (1, .int x1), (2, .int x2), (3, .int x3), (4, .int x4), (5, .int x5), (6, .int x6), (8, .int x8)] [] σ else q_run 109 252 [(0, .ref x0), (1, .int x1), (2, .int x2), (3, .int x3), (4, .int x4), (5, .int x5), (6, .int x6), (8, .int x8)] [.int (nI 1)] σ := (q_run_un 109 [22, 43, 109, 132, 154, 184, 215, 251, 252, 297, 309] 194 ..).trans rfl
set_option maxRecDepth 100000 in
theorem e_109_251 (x0 : Nat) (x1 : Int32) (x2 : Int32) (x3 : Int32) (x4 : Int32) (x5 : Int32) (x6 : Int32) (x8 : Int32) (σ : qH) : q_run 109 251 [(0, .ref x0), (1, .int x1), (2, .int x2), (3, .int x3), (4, .int x4), (5, .int x5), (6, .int x6), (8, .int x8)] [] σ = q_run 109 252 [(0, .ref x0), (1, .int x1), (2, .int x2), (3, .int x3), (4, .int x4), (5, .int x5), (6, .int x6), (8, .int x8)] [.int (nI 0)] σ := (q_run_un 109 [22, 43, 109, 132, 154, 184, 215, 251, 252, 297, 309] 194 ..).trans rfl
set_option maxRecDepth 100000 in
theorem e_109_252 (x0 : Nat) (x1 : Int32) (x2 : Int32) (x3 : Int32) (x4 : Int32) (x5 : Int32) (x6 : Int32) (x8 : Int32) (s0 : Int32) (σ : qH) : q_run 109 252 [(0, .ref x0), (1, .int x1), (2, .int x2), (3, .int x3), (4, .int x4), (5, .int x5), (6, .int x6), (8, .int x8)] [.int s0] σ = q_run 109 215 [(0, .ref x0), (1, .int x1), (2, .int x2), (3, .int x3), (4, .int x4), (5, .int x5), (6, .int x6), (7, .int s0), (8, .int (x8 + (nI 1)))] [] σ := (q_run_un 109 [22, 43, 109, 132, 154, 184, 215, 251, 252, 297, 309] 194 ..).trans rfl
set_option maxRecDepth 100000 in
theorem e_109_297 (x0 : Nat) (x1 : Int32) (x2 : Int32) (x3 : Int32) (x4 : Int32) (x5 : Int32) (x6 : Int32) (σ : qH) : q_run 109 297 [(0, .ref x0), (1, .int x1), (2, .int x2), (3, .int x3), (4, .int x4), (5, .int x5), (6, .int x6)] [] σ = q_run 109 184 [(0, .ref x0), (1, .int x1), (2, .int x2), (3, .int x3), (4, .int x4), (5, .int x5), (6, .int (x6 + (nI 1)))] [] σ := (q_run_un 109 [22, 43, 109, 132, 154, 184, 215, 251, 252, 297, 309] 194 ..).trans rfl
set_option maxRecDepth 100000 in
theorem e_109_309 (x0 : Nat) (x1 : Int32) (x2 : Int32) (x3 : Int32) (σ : qH) : q_run 109 309 [(0, .ref x0), (1, .int x1), (2, .int x2), (3, .int x3)] [] σ = q_ob (q_getR σ (.ref x0) 7 17) none fun v1 => q_ob (q_cI (q_call 106 [.ref v1, .int x2] σ)) none fun p2 => q_ob (q_cV (q_call 68 [.ref x0] p2.2)) none fun h3 => if p2.1 = nI 0 then some (some (.int (-9 : Int32)), h3) else if x1 = nI 0 then some (some (.int x3), h3) else if x3 = nI 0 then some (some (.int (-9 : Int32)), h3) else q_ob (q_cI (q_call 108 [.ref x0] h3)) none fun p4 => some (some (.int p4.1), p4.2) := (q_run_un 109 [22, 43, 109, 132, 154, 184, 215, 251, 252, 297, 309] 194 ..).trans rfl
-- 110 X6_sendsHome
set_option maxRecDepth 100000 in
theorem e_110_0 (x0 : Nat) (x1 : Int32) (σ : qH) : q_run 110 0 [(0, .ref x0), (1, .int x1)] [] σ = q_ob (q_getR σ (.ref x0) 6 4) none fun v1 => q_ob (q_getR σ (.ref x0) 6 3) none fun v2 => q_ob (q_cV (q_call 51 [.ref v1, .ref v2] σ)) none fun h3 => q_ob (q_getR h3 (.ref x0) 6 4) none fun v4 => q_ob (q_put h3 (.ref v4) 0 4 0 (.int x1)) none fun h5 => q_ob (q_getR h5 (.ref x0) 6 4) none fun v6 => q_ob (q_getR h5 (.ref x0) 6 2) none fun v7 => q_ob (q_cI (q_call 58 [.ref v6, .ref v7] h5)) none fun p8 => q_ob (q_getR p8.2 (.ref x0) 6 4) none fun v9 => q_ob (q_getI p8.2 (.ref v9) 0 0) none fun v10 => q_ob (q_getR p8.2 (.ref x0) 6 2) none fun v11 => q_ob (q_getI p8.2 (.ref v11) 3 7) none fun v12 => if v10 = v12 then some (some (.int (nI 1)), p8.2) else some (some (.int (nI 0)), p8.2) := (q_run_un 110 [] 28 ..).trans rfl
-- 111 X6_homing
set_option maxRecDepth 100000 in
theorem e_111_0 (x0 : Nat) (σ : qH) : q_run 111 0 [(0, .ref x0)] [] σ = q_run 111 8 [(0, .ref x0), (1, .int (-9 : Int32)), (2, .int (nI 6)), (3, .int (nI 0))] [] σ := (q_run_un 111 [8, 46] 33 ..).trans rfl
set_option maxRecDepth 100000 in
theorem e_111_8 (x0 : Nat) (x1 : Int32) (x2 : Int32) (x3 : Int32) (σ : qH) : q_run 111 8 [(0, .ref x0), (1, .int x1), (2, .int x2), (3, .int x3)] [] σ = q_ob (q_getR σ (.ref x0) 6 2) none fun v1 => q_ob (q_getI σ (.ref v1) 3 0) none fun v2 => if ((nI 1) <<< (v2 &&& 31)) ≤ x3 then some (some (.int x1), σ) else q_ob (q_cI (q_call 88 [.int x3] σ)) none fun p3 => if x2 ≤ p3.1 then q_run 111 46 [(0, .ref x0), (1, .int x1), (2, .int x2), (3, .int x3)] [] p3.2 else q_ob (q_cI (q_call 110 [.ref x0, .int x3] p3.2)) none fun p4 => if p4.1 = nI 0 then q_run 111 46 [(0, .ref x0), (1, .int x1), (2, .int x2), (3, .int x3)] [] p4.2 else q_run 111 46 [(0, .ref x0), (1, .int x3), (2, .int p3.1), (3, .int x3)] [] p4.2 := (q_run_un 111 [8, 46] 33 ..).trans rfl
set_option maxRecDepth 100000 in
theorem e_111_46 (x0 : Nat) (x1 : Int32) (x2 : Int32) (x3 : Int32) (σ : qH) : q_run 111 46 [(0, .ref x0), (1, .int x1), (2, .int x2), (3, .int x3)] [] σ = q_run 111 8 [(0, .ref x0), (1, .int x1), (2, .int x2), (3, .int (x3 + (nI 1)))] [] σ := (q_run_un 111 [8, 46] 33 ..).trans rfl
-- 112 X7_homing
set_option maxRecDepth 100000 in
theorem e_112_0 (x0 : Nat) (σ : qH) : q_run 112 0 [(0, .ref x0)] [] σ = q_ob (q_cV (q_call 63 [.ref x0] σ)) none fun h1 => q_run 112 9 [(0, .ref x0), (1, .int (-9 : Int32)), (2, .int (nI 0))] [] h1 := (q_run_un 112 [9, 46, 72, 76, 77] 51 ..).trans rfl
set_option maxRecDepth 100000 in
theorem e_112_9 (x0 : Nat) (x1 : Int32) (x2 : Int32) (σ : qH) : q_run 112 9 [(0, .ref x0), (1, .int x1), (2, .int x2)] [] σ = q_ob (q_getR σ (.ref x0) 7 3) none fun v1 => q_ob (q_aldI σ (.ref v1) 1 (nI 0)) none fun v2 => if ((nI 1) <<< (v2 &&& 31)) ≤ x2 then some (some (.int x1), σ) else q_ob (q_getR σ (.ref x0) 7 5) none fun v3 => q_ob (q_astI σ (.ref v3) 1 (nI 20) x2) none fun h4 => q_ob (q_cI (q_call 67 [.ref x0] h4)) none fun p5 => q_ob (q_cI (q_call 78 [.ref x0] p5.2)) none fun p6 => if p6.1 = nI 0 then q_run 112 46 [(0, .ref x0), (1, .int x1), (2, .int x2)] [.int (nI 1)] p6.2 else q_run 112 46 [(0, .ref x0), (1, .int x1), (2, .int x2)] [.int (nI 0)] p6.2 := (q_run_un 112 [9, 46, 72, 76, 77] 51 ..).trans rfl
set_option maxRecDepth 100000 in
theorem e_112_46 (x0 : Nat) (x1 : Int32) (x2 : Int32) (s0 : Int32) (σ : qH) : q_run 112 46 [(0, .ref x0), (1, .int x1), (2, .int x2)] [.int s0] σ = q_ob (q_cV (q_call 68 [.ref x0] σ)) none fun h1 => if s0 = nI 0 then q_run 112 76 [(0, .ref x0), (1, .int x1), (2, .int x2)] [] h1 else if x1 = (-9 : Int32) then q_run 112 72 [(0, .ref x0), (2, .int x2)] [] h1 else q_ob (q_cI (q_call 65 [.int x2] h1)) none fun p2 => q_ob (q_cI (q_call 65 [.int x1] p2.2)) none fun p3 => if p3.1 ≤ p2.1 then q_run 112 76 [(0, .ref x0), (1, .int x1), (2, .int x2)] [] p3.2 else q_run 112 72 [(0, .ref x0), (2, .int x2)] [] p3.2 := (q_run_un 112 [9, 46, 72, 76, 77] 51 ..).trans rfl
set_option maxRecDepth 100000 in
theorem e_112_72 (x0 : Nat) (x2 : Int32) (σ : qH) : q_run 112 72 [(0, .ref x0), (2, .int x2)] [] σ = q_run 112 77 [(0, .ref x0), (2, .int x2)] [.int x2] σ := (q_run_un 112 [9, 46, 72, 76, 77] 51 ..).trans rfl
set_option maxRecDepth 100000 in
theorem e_112_76 (x0 : Nat) (x1 : Int32) (x2 : Int32) (σ : qH) : q_run 112 76 [(0, .ref x0), (1, .int x1), (2, .int x2)] [] σ = q_run 112 77 [(0, .ref x0), (2, .int x2)] [.int x1] σ := (q_run_un 112 [9, 46, 72, 76, 77] 51 ..).trans rfl
set_option maxRecDepth 100000 in
theorem e_112_77 (x0 : Nat) (x2 : Int32) (s0 : Int32) (σ : qH) : q_run 112 77 [(0, .ref x0), (2, .int x2)] [.int s0] σ = q_run 112 9 [(0, .ref x0), (1, .int s0), (2, .int (x2 + (nI 1)))] [] σ := (q_run_un 112 [9, 46, 72, 76, 77] 51 ..).trans rfl
-- 113 X3_roomsTaken
set_option maxRecDepth 100000 in
theorem e_113_0 (x0 : Nat) (x1 : Int32) (x2 : Int32) (σ : qH) : q_run 113 0 [(0, .ref x0), (1, .int x1), (2, .int x2)] [] σ = q_run 113 5 [(1, .int x1), (2, .int x2), (3, .int (nI 0)), (4, .int (nI 0))] [] σ := (q_run_un 113 [5] 22 ..).trans rfl
set_option maxRecDepth 100000 in
theorem e_113_5 (x1 : Int32) (x2 : Int32) (x3 : Int32) (x4 : Int32) (σ : qH) : q_run 113 5 [(1, .int x1), (2, .int x2), (3, .int x3), (4, .int x4)] [] σ = if x2 ≤ x4 then q_ob (q_cI (q_call 88 [.int x3] σ)) none fun p1 => some (some (.int p1.1), p1.2) else q_ob (q_cI (q_call 49 [.int x1, .int x4] σ)) none fun p2 => q_run 113 5 [(1, .int x1), (2, .int x2), (3, .int (x3 ||| ((nI 1) <<< (p2.1 &&& 31)))), (4, .int (x4 + (nI 1)))] [] p2.2 := (q_run_un 113 [5] 22 ..).trans rfl
-- 114 X3_mayJoin
set_option maxRecDepth 100000 in
theorem e_114_0 (x0 : Nat) (x1 : Int32) (x2 : Int32) (x3 : Int32) (σ : qH) : q_run 114 0 [(0, .ref x0), (1, .int x1), (2, .int x2), (3, .int x3)] [] σ = q_run 114 6 [(0, .ref x0), (1, .int x1), (2, .int x2), (3, .int x3), (4, .int (nI 0)), (5, .int (nI 0))] [] σ := (q_run_un 114 [6, 47] 38 ..).trans rfl
set_option maxRecDepth 100000 in
theorem e_114_6 (x0 : Nat) (x1 : Int32) (x2 : Int32) (x3 : Int32) (x4 : Int32) (x5 : Int32) (σ : qH) : q_run 114 6 [(0, .ref x0), (1, .int x1), (2, .int x2), (3, .int x3), (4, .int x4), (5, .int x5)] [] σ = if x2 ≤ x5 then q_ob (q_getL σ (.ref x0) 3 4) none fun v1 => q_ob (q_cI (q_call 35 [.long v1, .int x3] σ)) none fun p2 => if p2.1 ≤ x4 then some (some (.int (nI 0)), p2.2) else some (some (.int (nI 1)), p2.2) else q_ob (q_cI (q_call 49 [.int x1, .int x5] σ)) none fun p3 => if p3.1 = x3 then q_ob (q_getL p3.2 (.ref x0) 3 9) none fun v4 => q_ob (q_cI (q_call 35 [.long v4, .int x5] p3.2)) none fun p5 => q_ob (q_getL p5.2 (.ref x0) 3 9) none fun v6 => q_ob (q_cI (q_call 35 [.long v6, .int x2] p5.2)) none fun p7 => if p5.1 = p7.1 then q_run 114 47 [(0, .ref x0), (1, .int x1), (2, .int x2), (3, .int x3), (4, .int (x4 + (nI 1))), (5, .int x5)] [] p7.2 else some (some (.int (nI 0)), p7.2) else q_run 114 47 [(0, .ref x0), (1, .int x1), (2, .int x2), (3, .int x3), (4, .int x4), (5, .int x5)] [] p3.2 := (q_run_un 114 [6, 47] 38 ..).trans rfl
set_option maxRecDepth 100000 in
theorem e_114_47 (x0 : Nat) (x1 : Int32) (x2 : Int32) (x3 : Int32) (x4 : Int32) (x5 : Int32) (σ : qH) : q_run 114 47 [(0, .ref x0), (1, .int x1), (2, .int x2), (3, .int x3), (4, .int x4), (5, .int x5)] [] σ = q_run 114 6 [(0, .ref x0), (1, .int x1), (2, .int x2), (3, .int x3), (4, .int x4), (5, .int (x5 + (nI 1)))] [] σ := (q_run_un 114 [6, 47] 38 ..).trans rfl
-- 115 X6_cheapest0
set_option maxRecDepth 100000 in
theorem e_115_0 (x0 : Nat) (x1 : Int32) (x2 : Int32) (x3 : Int32) (σ : qH) : q_run 115 0 [(0, .ref x0), (1, .int x1), (2, .int x2), (3, .int x3)] [] σ = q_ob (q_cI (q_call 113 [.ref x0, .int x2, .int x1] σ)) none fun p1 => if p1.1 < (x3 >>> ((nI 15) &&& 31)) then q_ob (q_getI p1.2 (.ref x0) 3 1) none fun v2 => if x1 < v2 then q_run 115 41 [(0, .ref x0), (1, .int x1), (2, .int x2), (5, .int x3), (6, .int (nI 0))] [] p1.2 else some (some (.int ((p1.1 <<< ((nI 15) &&& 31)) ||| x2)), p1.2) else some (some (.int x3), p1.2) := (q_run_un 115 [41, 79] 53 ..).trans rfl
set_option maxRecDepth 100000 in
theorem e_115_41 (x0 : Nat) (x1 : Int32) (x2 : Int32) (x5 : Int32) (x6 : Int32) (σ : qH) : q_run 115 41 [(0, .ref x0), (1, .int x1), (2, .int x2), (5, .int x5), (6, .int x6)] [] σ = q_ob (q_getI σ (.ref x0) 3 0) none fun v1 => if v1 ≤ x6 then some (some (.int x5), σ) else q_ob (q_cI (q_call 114 [.ref x0, .int x2, .int x1, .int x6] σ)) none fun p2 => if p2.1 = nI 0 then q_run 115 79 [(0, .ref x0), (1, .int x1), (2, .int x2), (5, .int x5), (6, .int x6)] [] p2.2 else q_ob (q_cI (q_call 37 [.int x2, .int x1, .int x6] p2.2)) none fun p3 => none := (q_run_un 115 [41, 79] 53 ..).trans rfl
set_option maxRecDepth 100000 in
theorem e_115_79 (x0 : Nat) (x1 : Int32) (x2 : Int32) (x5 : Int32) (x6 : Int32) (σ : qH) : q_run 115 79 [(0, .ref x0), (1, .int x1), (2, .int x2), (5, .int x5), (6, .int x6)] [] σ = q_run 115 41 [(0, .ref x0), (1, .int x1), (2, .int x2), (5, .int x5), (6, .int (x6 + (nI 1)))] [] σ := (q_run_un 115 [41, 79] 53 ..).trans rfl
-- 116 X6_cheapest1
set_option maxRecDepth 100000 in
theorem e_116_0 (x0 : Nat) (x1 : Int32) (x2 : Int32) (x3 : Int32) (σ : qH) : q_run 116 0 [(0, .ref x0), (1, .int x1), (2, .int x2), (3, .int x3)] [] σ = q_ob (q_cI (q_call 113 [.ref x0, .int x2, .int x1] σ)) none fun p1 => if p1.1 < (x3 >>> ((nI 15) &&& 31)) then q_ob (q_getI p1.2 (.ref x0) 3 1) none fun v2 => if x1 < v2 then q_run 116 41 [(0, .ref x0), (1, .int x1), (2, .int x2), (5, .int x3), (6, .int (nI 0))] [] p1.2 else some (some (.int ((p1.1 <<< ((nI 15) &&& 31)) ||| x2)), p1.2) else some (some (.int x3), p1.2) := (q_run_un 116 [41, 79] 53 ..).trans rfl
set_option maxRecDepth 100000 in
theorem e_116_41 (x0 : Nat) (x1 : Int32) (x2 : Int32) (x5 : Int32) (x6 : Int32) (σ : qH) : q_run 116 41 [(0, .ref x0), (1, .int x1), (2, .int x2), (5, .int x5), (6, .int x6)] [] σ = q_ob (q_getI σ (.ref x0) 3 0) none fun v1 => if v1 ≤ x6 then some (some (.int x5), σ) else q_ob (q_cI (q_call 114 [.ref x0, .int x2, .int x1, .int x6] σ)) none fun p2 => if p2.1 = nI 0 then q_run 116 79 [(0, .ref x0), (1, .int x1), (2, .int x2), (5, .int x5), (6, .int x6)] [] p2.2 else q_ob (q_cI (q_call 37 [.int x2, .int x1, .int x6] p2.2)) none fun p3 => q_ob (q_cI (q_call 115 [.ref x0, .int (x1 + (nI 1)), .int p3.1, .int x5] p3.2)) none fun p4 => q_run 116 79 [(0, .ref x0), (1, .int x1), (2, .int x2), (5, .int p4.1), (6, .int x6)] [] p4.2 := (q_run_un 116 [41, 79] 53 ..).trans rfl
set_option maxRecDepth 100000 in
theorem e_116_79 (x0 : Nat) (x1 : Int32) (x2 : Int32) (x5 : Int32) (x6 : Int32) (σ : qH) : q_run 116 79 [(0, .ref x0), (1, .int x1), (2, .int x2), (5, .int x5), (6, .int x6)] [] σ = q_run 116 41 [(0, .ref x0), (1, .int x1), (2, .int x2), (5, .int x5), (6, .int (x6 + (nI 1)))] [] σ := (q_run_un 116 [41, 79] 53 ..).trans rfl
-- 117 X6_cheapest2
set_option maxRecDepth 100000 in
theorem e_117_0 (x0 : Nat) (x1 : Int32) (x2 : Int32) (x3 : Int32) (σ : qH) : q_run 117 0 [(0, .ref x0), (1, .int x1), (2, .int x2), (3, .int x3)] [] σ = q_ob (q_cI (q_call 113 [.ref x0, .int x2, .int x1] σ)) none fun p1 => if p1.1 < (x3 >>> ((nI 15) &&& 31)) then q_ob (q_getI p1.2 (.ref x0) 3 1) none fun v2 => if x1 < v2 then q_run 117 41 [(0, .ref x0), (1, .int x1), (2, .int x2), (5, .int x3), (6, .int (nI 0))] [] p1.2 else some (some (.int ((p1.1 <<< ((nI 15) &&& 31)) ||| x2)), p1.2) else some (some (.int x3), p1.2) := (q_run_un 117 [41, 79] 53 ..).trans rfl
set_option maxRecDepth 100000 in
theorem e_117_41 (x0 : Nat) (x1 : Int32) (x2 : Int32) (x5 : Int32) (x6 : Int32) (σ : qH) : q_run 117 41 [(0, .ref x0), (1, .int x1), (2, .int x2), (5, .int x5), (6, .int x6)] [] σ = q_ob (q_getI σ (.ref x0) 3 0) none fun v1 => if v1 ≤ x6 then some (some (.int x5), σ) else q_ob (q_cI (q_call 114 [.ref x0, .int x2, .int x1, .int x6] σ)) none fun p2 => if p2.1 = nI 0 then q_run 117 79 [(0, .ref x0), (1, .int x1), (2, .int x2), (5, .int x5), (6, .int x6)] [] p2.2 else q_ob (q_cI (q_call 37 [.int x2, .int x1, .int x6] p2.2)) none fun p3 => q_ob (q_cI (q_call 116 [.ref x0, .int (x1 + (nI 1)), .int p3.1, .int x5] p3.2)) none fun p4 => q_run 117 79 [(0, .ref x0), (1, .int x1), (2, .int x2), (5, .int p4.1), (6, .int x6)] [] p4.2 := (q_run_un 117 [41, 79] 53 ..).trans rfl
set_option maxRecDepth 100000 in
theorem e_117_79 (x0 : Nat) (x1 : Int32) (x2 : Int32) (x5 : Int32) (x6 : Int32) (σ : qH) : q_run 117 79 [(0, .ref x0), (1, .int x1), (2, .int x2), (5, .int x5), (6, .int x6)] [] σ = q_run 117 41 [(0, .ref x0), (1, .int x1), (2, .int x2), (5, .int x5), (6, .int (x6 + (nI 1)))] [] σ := (q_run_un 117 [41, 79] 53 ..).trans rfl
-- 118 X6_cheapest3
set_option maxRecDepth 100000 in
theorem e_118_0 (x0 : Nat) (x1 : Int32) (x2 : Int32) (x3 : Int32) (σ : qH) : q_run 118 0 [(0, .ref x0), (1, .int x1), (2, .int x2), (3, .int x3)] [] σ = q_ob (q_cI (q_call 113 [.ref x0, .int x2, .int x1] σ)) none fun p1 => if p1.1 < (x3 >>> ((nI 15) &&& 31)) then q_ob (q_getI p1.2 (.ref x0) 3 1) none fun v2 => if x1 < v2 then q_run 118 41 [(0, .ref x0), (1, .int x1), (2, .int x2), (5, .int x3), (6, .int (nI 0))] [] p1.2 else some (some (.int ((p1.1 <<< ((nI 15) &&& 31)) ||| x2)), p1.2) else some (some (.int x3), p1.2) := (q_run_un 118 [41, 79] 53 ..).trans rfl
set_option maxRecDepth 100000 in
theorem e_118_41 (x0 : Nat) (x1 : Int32) (x2 : Int32) (x5 : Int32) (x6 : Int32) (σ : qH) : q_run 118 41 [(0, .ref x0), (1, .int x1), (2, .int x2), (5, .int x5), (6, .int x6)] [] σ = q_ob (q_getI σ (.ref x0) 3 0) none fun v1 => if v1 ≤ x6 then some (some (.int x5), σ) else q_ob (q_cI (q_call 114 [.ref x0, .int x2, .int x1, .int x6] σ)) none fun p2 => if p2.1 = nI 0 then q_run 118 79 [(0, .ref x0), (1, .int x1), (2, .int x2), (5, .int x5), (6, .int x6)] [] p2.2 else q_ob (q_cI (q_call 37 [.int x2, .int x1, .int x6] p2.2)) none fun p3 => q_ob (q_cI (q_call 117 [.ref x0, .int (x1 + (nI 1)), .int p3.1, .int x5] p3.2)) none fun p4 => q_run 118 79 [(0, .ref x0), (1, .int x1), (2, .int x2), (5, .int p4.1), (6, .int x6)] [] p4.2 := (q_run_un 118 [41, 79] 53 ..).trans rfl
set_option maxRecDepth 100000 in
theorem e_118_79 (x0 : Nat) (x1 : Int32) (x2 : Int32) (x5 : Int32) (x6 : Int32) (σ : qH) : q_run 118 79 [(0, .ref x0), (1, .int x1), (2, .int x2), (5, .int x5), (6, .int x6)] [] σ = q_run 118 41 [(0, .ref x0), (1, .int x1), (2, .int x2), (5, .int x5), (6, .int (x6 + (nI 1)))] [] σ := (q_run_un 118 [41, 79] 53 ..).trans rfl
-- 119 X6_cheapest4
set_option maxRecDepth 100000 in
theorem e_119_0 (x0 : Nat) (x1 : Int32) (x2 : Int32) (x3 : Int32) (σ : qH) : q_run 119 0 [(0, .ref x0), (1, .int x1), (2, .int x2), (3, .int x3)] [] σ = q_ob (q_cI (q_call 113 [.ref x0, .int x2, .int x1] σ)) none fun p1 => if p1.1 < (x3 >>> ((nI 15) &&& 31)) then q_ob (q_getI p1.2 (.ref x0) 3 1) none fun v2 => if x1 < v2 then q_run 119 41 [(0, .ref x0), (1, .int x1), (2, .int x2), (5, .int x3), (6, .int (nI 0))] [] p1.2 else some (some (.int ((p1.1 <<< ((nI 15) &&& 31)) ||| x2)), p1.2) else some (some (.int x3), p1.2) := (q_run_un 119 [41, 79] 53 ..).trans rfl
set_option maxRecDepth 100000 in
theorem e_119_41 (x0 : Nat) (x1 : Int32) (x2 : Int32) (x5 : Int32) (x6 : Int32) (σ : qH) : q_run 119 41 [(0, .ref x0), (1, .int x1), (2, .int x2), (5, .int x5), (6, .int x6)] [] σ = q_ob (q_getI σ (.ref x0) 3 0) none fun v1 => if v1 ≤ x6 then some (some (.int x5), σ) else q_ob (q_cI (q_call 114 [.ref x0, .int x2, .int x1, .int x6] σ)) none fun p2 => if p2.1 = nI 0 then q_run 119 79 [(0, .ref x0), (1, .int x1), (2, .int x2), (5, .int x5), (6, .int x6)] [] p2.2 else q_ob (q_cI (q_call 37 [.int x2, .int x1, .int x6] p2.2)) none fun p3 => q_ob (q_cI (q_call 118 [.ref x0, .int (x1 + (nI 1)), .int p3.1, .int x5] p3.2)) none fun p4 => q_run 119 79 [(0, .ref x0), (1, .int x1), (2, .int x2), (5, .int p4.1), (6, .int x6)] [] p4.2 := (q_run_un 119 [41, 79] 53 ..).trans rfl
set_option maxRecDepth 100000 in
theorem e_119_79 (x0 : Nat) (x1 : Int32) (x2 : Int32) (x5 : Int32) (x6 : Int32) (σ : qH) : q_run 119 79 [(0, .ref x0), (1, .int x1), (2, .int x2), (5, .int x5), (6, .int x6)] [] σ = q_run 119 41 [(0, .ref x0), (1, .int x1), (2, .int x2), (5, .int x5), (6, .int (x6 + (nI 1)))] [] σ := (q_run_un 119 [41, 79] 53 ..).trans rfl
-- 120 X6_cheapest5
set_option maxRecDepth 100000 in
theorem e_120_0 (x0 : Nat) (x1 : Int32) (x2 : Int32) (x3 : Int32) (σ : qH) : q_run 120 0 [(0, .ref x0), (1, .int x1), (2, .int x2), (3, .int x3)] [] σ = q_ob (q_cI (q_call 113 [.ref x0, .int x2, .int x1] σ)) none fun p1 => if p1.1 < (x3 >>> ((nI 15) &&& 31)) then q_ob (q_getI p1.2 (.ref x0) 3 1) none fun v2 => if x1 < v2 then q_run 120 41 [(0, .ref x0), (1, .int x1), (2, .int x2), (5, .int x3), (6, .int (nI 0))] [] p1.2 else some (some (.int ((p1.1 <<< ((nI 15) &&& 31)) ||| x2)), p1.2) else some (some (.int x3), p1.2) := (q_run_un 120 [41, 79] 53 ..).trans rfl
set_option maxRecDepth 100000 in
theorem e_120_41 (x0 : Nat) (x1 : Int32) (x2 : Int32) (x5 : Int32) (x6 : Int32) (σ : qH) : q_run 120 41 [(0, .ref x0), (1, .int x1), (2, .int x2), (5, .int x5), (6, .int x6)] [] σ = q_ob (q_getI σ (.ref x0) 3 0) none fun v1 => if v1 ≤ x6 then some (some (.int x5), σ) else q_ob (q_cI (q_call 114 [.ref x0, .int x2, .int x1, .int x6] σ)) none fun p2 => if p2.1 = nI 0 then q_run 120 79 [(0, .ref x0), (1, .int x1), (2, .int x2), (5, .int x5), (6, .int x6)] [] p2.2 else q_ob (q_cI (q_call 37 [.int x2, .int x1, .int x6] p2.2)) none fun p3 => q_ob (q_cI (q_call 119 [.ref x0, .int (x1 + (nI 1)), .int p3.1, .int x5] p3.2)) none fun p4 => q_run 120 79 [(0, .ref x0), (1, .int x1), (2, .int x2), (5, .int p4.1), (6, .int x6)] [] p4.2 := (q_run_un 120 [41, 79] 53 ..).trans rfl
set_option maxRecDepth 100000 in
theorem e_120_79 (x0 : Nat) (x1 : Int32) (x2 : Int32) (x5 : Int32) (x6 : Int32) (σ : qH) : q_run 120 79 [(0, .ref x0), (1, .int x1), (2, .int x2), (5, .int x5), (6, .int x6)] [] σ = q_run 120 41 [(0, .ref x0), (1, .int x1), (2, .int x2), (5, .int x5), (6, .int (x6 + (nI 1)))] [] σ := (q_run_un 120 [41, 79] 53 ..).trans rfl
-- 121 X6_apart
set_option maxRecDepth 100000 in
theorem e_121_0 (x0 : Nat) (x1 : Int32) (σ : qH) : q_run 121 0 [(0, .ref x0), (1, .int x1)] [] σ = if x1 = (-1 : Int32) then q_run 121 18 [(0, .ref x0), (1, .int x1)] [] σ else q_ob (q_getR σ (.ref x0) 6 2) none fun v1 => q_ob (q_cI (q_call 71 [.ref v1, .int x1] σ)) none fun p2 => if p2.1 = nI 0 then some (some (.int (-1 : Int32)), p2.2) else q_run 121 18 [(0, .ref x0), (1, .int x1)] [] p2.2 := (q_run_un 121 [18] 35 ..).trans rfl
set_option maxRecDepth 100000 in
theorem e_121_18 (x0 : Nat) (x1 : Int32) (σ : qH) : q_run 121 18 [(0, .ref x0), (1, .int x1)] [] σ = q_ob (q_getR σ (.ref x0) 6 2) none fun v1 => q_ob (q_cI (q_call 120 [.ref v1, .int (nI 0), .int (nI 0), .int (nI 196608)] σ)) none fun p2 => if p2.1 = (nI 196608) then some (some (.int (-9 : Int32)), p2.2) else if x1 = (-1 : Int32) then some (some (.int (p2.1 >>> ((nI 15) &&& 31))), p2.2) else q_ob (q_cI (q_call 49 [.int p2.1, .int x1] p2.2)) none fun p3 => some (some (.int p3.1), p3.2) := (q_run_un 121 [18] 35 ..).trans rfl
-- 122 X7_apart
set_option maxRecDepth 100000 in
theorem e_122_0 (x0 : Nat) (x1 : Int32) (σ : qH) : q_run 122 0 [(0, .ref x0), (1, .int x1)] [] σ = if x1 = (-1 : Int32) then q_run 122 15 [(0, .ref x0), (1, .int x1)] [] σ else q_ob (q_cI (q_call 73 [.ref x0, .int x1] σ)) none fun p1 => if p1.1 = nI 0 then some (some (.int (-1 : Int32)), p1.2) else q_run 122 15 [(0, .ref x0), (1, .int x1)] [] p1.2 := (q_run_un 122 [15, 27, 62, 89, 144, 195, 196, 201, 253, 257, 258, 292, 313, 314] 184 ..).trans rfl
set_option maxRecDepth 100000 in
theorem e_122_15 (x0 : Nat) (x1 : Int32) (σ : qH) : q_run 122 15 [(0, .ref x0), (1, .int x1)] [] σ = q_run 122 27 [(0, .ref x0), (1, .int x1), (2, .int (-9 : Int32)), (3, .int (-9 : Int32)), (4, .int (nI 1)), (5, .int (nI 0))] [] σ := (q_run_un 122 [15, 27, 62, 89, 144, 195, 196, 201, 253, 257, 258, 292, 313, 314] 184 ..).trans rfl
set_option maxRecDepth 100000 in
theorem e_122_27 (x0 : Nat) (x1 : Int32) (x2 : Int32) (x3 : Int32) (x4 : Int32) (x5 : Int32) (σ : qH) : q_run 122 27 [(0, .ref x0), (1, .int x1), (2, .int x2), (3, .int x3), (4, .int x4), (5, .int x5)] [] σ = q_ob (q_getR σ (.ref x0) 7 3) none fun v1 => q_ob (q_aldI σ (.ref v1) 1 (nI 1)) none fun v2 => if v2 ≤ x5 then q_ob (q_cV (q_call 63 [.ref x0] σ)) none fun h3 => q_run 122 62 [(0, .ref x0), (1, .int x1), (2, .int x2), (3, .int x3), (4, .int x4), (5, .int (nI 0))] [] h3 else q_ob (q_getR σ (.ref x0) 7 3) none fun v4 => q_ob (q_aldI σ (.ref v4) 1 (nI 0)) none fun v5 => q_run 122 27 [(0, .ref x0), (1, .int x1), (2, .int x2), (3, .int x3), (4, .int (x4 * v5)), (5, .int (x5 + (nI 1)))] [] σ := (q_run_un 122 [15, 27, 62, 89, 144, 195, 196, 201, 253, 257, 258, 292, 313, 314] 184 ..).trans rfl
set_option maxRecDepth 100000 in
theorem e_122_62 (x0 : Nat) (x1 : Int32) (x2 : Int32) (x3 : Int32) (x4 : Int32) (x5 : Int32) (σ : qH) : q_run 122 62 [(0, .ref x0), (1, .int x1), (2, .int x2), (3, .int x3), (4, .int x4), (5, .int x5)] [] σ = if x4 ≤ x5 then q_ob (q_cV (q_call 68 [.ref x0] σ)) none fun h1 => if x1 = (-1 : Int32) then some (some (.int x2), h1) else some (some (.int x3), h1) else q_ob (q_getR σ (.ref x0) 7 3) none fun v2 => q_ob (q_aldI σ (.ref v2) 1 (nI 1)) none fun v3 => q_run 122 89 [(0, .ref x0), (1, .int x1), (2, .int x2), (3, .int x3), (4, .int x4), (5, .int x5), (6, .int x5), (7, .int (nI 0)), (8, .int (nI 1)), (9, .int (v3 - (nI 1)))] [] σ := (q_run_un 122 [15, 27, 62, 89, 144, 195, 196, 201, 253, 257, 258, 292, 313, 314] 184 ..).trans rfl
set_option maxRecDepth 100000 in
theorem e_122_89 (x0 : Nat) (x1 : Int32) (x2 : Int32) (x3 : Int32) (x4 : Int32) (x5 : Int32) (x6 : Int32) (x7 : Int32) (x8 : Int32) (x9 : Int32) (σ : qH) : q_run 122 89 [(0, .ref x0), (1, .int x1), (2, .int x2), (3, .int x3), (4, .int x4), (5, .int x5), (6, .int x6), (7, .int x7), (8, .int x8), (9, .int x9)] [] σ = if x9 < nI 0 then q_run 122 144 [(0, .ref x0), (1, .int x1), (2, .int x2), (3, .int x3), (4, .int x4), (5, .int x5), (7, .int x7), (8, .int x8), (9, .int (nI 0))] [] σ else q_ob (q_getR σ (.ref x0) 7 5) none fun v1 => q_ob (q_getR σ (.ref x0) 7 3) none fun v2 => q_ob (q_aldI σ (.ref v2) 1 (nI 0)) none fun v3 => if v3 = nI 0 then none else q_ob (q_astI σ (.ref v1) 1 x9 (x6 - x6 / v3 * v3)) none fun h4 => q_ob (q_getR h4 (.ref x0) 7 3) none fun v5 => q_ob (q_aldI h4 (.ref v5) 1 (nI 0)) none fun v6 => if v6 = nI 0 then none else q_ob (q_getR h4 (.ref x0) 7 5) none fun v7 => q_ob (q_aldI h4 (.ref v7) 1 x9) none fun v8 => q_run 122 89 [(0, .ref x0), (1, .int x1), (2, .int x2), (3, .int x3), (4, .int x4), (5, .int x5), (6, .int (x6 / v6)), (7, .int (x7 ||| ((nI 1) <<< (v8 &&& 31)))), (8, .int x8), (9, .int (x9 + (-1 : Int32)))] [] h4 := (q_run_un 122 [15, 27, 62, 89, 144, 195, 196, 201, 253, 257, 258, 292, 313, 314] 184 ..).trans rfl
set_option maxRecDepth 100000 in
theorem e_122_144 (x0 : Nat) (x1 : Int32) (x2 : Int32) (x3 : Int32) (x4 : Int32) (x5 : Int32) (x7 : Int32) (x8 : Int32) (x9 : Int32) (σ : qH) : q_run 122 144 [(0, .ref x0), (1, .int x1), (2, .int x2), (3, .int x3), (4, .int x4), (5, .int x5), (7, .int x7), (8, .int x8), (9, .int x9)] [] σ = q_ob (q_getR σ (.ref x0) 7 3) none fun v1 => q_ob (q_aldI σ (.ref v1) 1 (nI 1)) none fun v2 => if v2 ≤ x9 then if x8 = nI 0 then q_run 122 314 [(0, .ref x0), (1, .int x1), (2, .int x2), (3, .int x3), (4, .int x4), (5, .int x5)] [] σ else if x2 = (-9 : Int32) then q_run 122 292 [(0, .ref x0), (1, .int x1), (4, .int x4), (5, .int x5), (7, .int x7)] [] σ else q_ob (q_cI (q_call 65 [.int x7] σ)) none fun p3 => if x2 ≤ p3.1 then q_run 122 314 [(0, .ref x0), (1, .int x1), (2, .int x2), (3, .int x3), (4, .int x4), (5, .int x5)] [] p3.2 else q_run 122 292 [(0, .ref x0), (1, .int x1), (4, .int x4), (5, .int x5), (7, .int x7)] [] p3.2 else if x8 = nI 0 then q_run 122 195 [(0, .ref x0), (1, .int x1), (2, .int x2), (3, .int x3), (4, .int x4), (5, .int x5), (7, .int x7), (9, .int x9)] [] σ else q_ob (q_getR σ (.ref x0) 7 5) none fun v4 => q_ob (q_aldI σ (.ref v4) 1 x9) none fun v5 => q_ob (q_cI (q_call 62 [.ref x0, .int v5] σ)) none fun p6 => q_ob (q_cI (q_call 65 [.int p6.1] p6.2)) none fun p7 => q_ob (q_getR p7.2 (.ref x0) 7 3) none fun v8 => q_ob (q_getR p7.2 (.ref x0) 7 5) none fun v9 => q_ob (q_aldI p7.2 (.ref v9) 1 x9) none fun v10 => q_ob (q_aldI p7.2 (.ref v8) 1 ((nI 5) + v10)) none fun v11 => if v11 < p7.1 then q_run 122 195 [(0, .ref x0), (1, .int x1), (2, .int x2), (3, .int x3), (4, .int x4), (5, .int x5), (7, .int x7), (9, .int x9)] [] p7.2 else q_run 122 196 [(0, .ref x0), (1, .int x1), (2, .int x2), (3, .int x3), (4, .int x4), (5, .int x5), (7, .int x7), (9, .int x9)] [.int (nI 1)] p7.2 := (q_run_un 122 [15, 27, 62, 89, 144, 195, 196, 201, 253, 257, 258, 292, 313, 314] 184 ..).trans rfl
set_option maxRecDepth 100000 in
theorem e_122_195 (x0 : Nat) (x1 : Int32) (x2 : Int32) (x3 : Int32) (x4 : Int32) (x5 : Int32) (x7 : Int32) (x9 : Int32) (σ : qH) : q_run 122 195 [(0, .ref x0), (1, .int x1), (2, .int x2), (3, .int x3), (4, .int x4), (5, .int x5), (7, .int x7), (9, .int x9)] [] σ = q_run 122 196 [(0, .ref x0), (1, .int x1), (2, .int x2), (3, .int x3), (4, .int x4), (5, .int x5), (7, .int x7), (9, .int x9)] [.int (nI 0)] σ := (q_run_un 122 [15, 27, 62, 89, 144, 195, 196, 201, 253, 257, 258, 292, 313, 314] 184 ..).trans rfl
set_option maxRecDepth 100000 in
theorem e_122_196 (x0 : Nat) (x1 : Int32) (x2 : Int32) (x3 : Int32) (x4 : Int32) (x5 : Int32) (x7 : Int32) (x9 : Int32) (s0 : Int32) (σ : qH) : q_run 122 196 [(0, .ref x0), (1, .int x1), (2, .int x2), (3, .int x3), (4, .int x4), (5, .int x5), (7, .int x7), (9, .int x9)] [.int s0] σ = q_run 122 201 [(0, .ref x0), (1, .int x1), (2, .int x2), (3, .int x3), (4, .int x4), (5, .int x5), (7, .int x7), (8, .int s0), (9, .int x9), (10, .int (nI 0))] [] σ := (q_run_un 122 [15, 27, 62, 89, 144, 195, 196, 201, 253, 257, 258, 292, 313, 314] 184 ..).trans rfl
set_option maxRecDepth 100000 in
theorem e_122_201 (x0 : Nat) (x1 : Int32) (x2 : Int32) (x3 : Int32) (x4 : Int32) (x5 : Int32) (x7 : Int32) (x8 : Int32) (x9 : Int32) (x10 : Int32) (σ : qH) : q_run 122 201 [(0, .ref x0), (1, .int x1), (2, .int x2), (3, .int x3), (4, .int x4), (5, .int x5), (7, .int x7), (8, .int x8), (9, .int x9), (10, .int x10)] [] σ = if x9 ≤ x10 then q_run 122 144 [(0, .ref x0), (1, .int x1), (2, .int x2), (3, .int x3), (4, .int x4), (5, .int x5), (7, .int x7), (8, .int x8), (9, .int (x9 + (nI 1)))] [] σ else if x8 = nI 0 then q_run 122 257 [(0, .ref x0), (1, .int x1), (2, .int x2), (3, .int x3), (4, .int x4), (5, .int x5), (7, .int x7), (9, .int x9), (10, .int x10)] [] σ else q_ob (q_getR σ (.ref x0) 7 5) none fun v1 => q_ob (q_aldI σ (.ref v1) 1 x10) none fun v2 => q_ob (q_getR σ (.ref x0) 7 5) none fun v3 => q_ob (q_aldI σ (.ref v3) 1 x9) none fun v4 => if v2 = v4 then q_ob (q_getR σ (.ref x0) 7 3) none fun v5 => q_ob (q_aldI σ (.ref v5) 1 ((nI 30) + x10)) none fun v6 => q_ob (q_getR σ (.ref x0) 7 3) none fun v7 => q_ob (q_aldI σ (.ref v7) 1 ((nI 30) + x9)) none fun v8 => if v6 = v8 then q_run 122 253 [(0, .ref x0), (1, .int x1), (2, .int x2), (3, .int x3), (4, .int x4), (5, .int x5), (7, .int x7), (9, .int x9), (10, .int x10)] [] σ else q_run 122 257 [(0, .ref x0), (1, .int x1), (2, .int x2), (3, .int x3), (4, .int x4), (5, .int x5), (7, .int x7), (9, .int x9), (10, .int x10)] [] σ else q_run 122 253 [(0, .ref x0), (1, .int x1), (2, .int x2), (3, .int x3), (4, .int x4), (5, .int x5), (7, .int x7), (9, .int x9), (10, .int x10)] [] σ := (q_run_un 122 [15, 27, 62, 89, 144, 195, 196, 201, 253, 257, 258, 292, 313, 314] 184 ..).trans rfl
set_option maxRecDepth 100000 in
theorem e_122_253 (x0 : Nat) (x1 : Int32) (x2 : Int32) (x3 : Int32) (x4 : Int32) (x5 : Int32) (x7 : Int32) (x9 : Int32) (x10 : Int32) (σ : qH) : q_run 122 253 [(0, .ref x0), (1, .int x1), (2, .int x2), (3, .int x3), (4, .int x4), (5, .int x5), (7, .int x7), (9, .int x9), (10, .int x10)] [] σ = q_run 122 258 [(0, .ref x0), (1, .int x1), (2, .int x2), (3, .int x3), (4, .int x4), (5, .int x5), (7, .int x7), (9, .int x9), (10, .int x10)] [.int (nI 1)] σ := (q_run_un 122 [15, 27, 62, 89, 144, 195, 196, 201, 253, 257, 258, 292, 313, 314] 184 ..).trans rfl
set_option maxRecDepth 100000 in
theorem e_122_257 (x0 : Nat) (x1 : Int32) (x2 : Int32) (x3 : Int32) (x4 : Int32) (x5 : Int32) (x7 : Int32) (x9 : Int32) (x10 : Int32) (σ : qH) : q_run 122 257 [(0, .ref x0), (1, .int x1), (2, .int x2), (3, .int x3), (4, .int x4), (5, .int x5), (7, .int x7), (9, .int x9), (10, .int x10)] [] σ = q_run 122 258 [(0, .ref x0), (1, .int x1), (2, .int x2), (3, .int x3), (4, .int x4), (5, .int x5), (7, .int x7), (9, .int x9), (10, .int x10)] [.int (nI 0)] σ := (q_run_un 122 [15, 27, 62, 89, 144, 195, 196, 201, 253, 257, 258, 292, 313, 314] 184 ..).trans rfl
set_option maxRecDepth 100000 in
theorem e_122_258 (x0 : Nat) (x1 : Int32) (x2 : Int32) (x3 : Int32) (x4 : Int32) (x5 : Int32) (x7 : Int32) (x9 : Int32) (x10 : Int32) (s0 : Int32) (σ : qH) : q_run 122 258 [(0, .ref x0), (1, .int x1), (2, .int x2), (3, .int x3), (4, .int x4), (5, .int x5), (7, .int x7), (9, .int x9), (10, .int x10)] [.int s0] σ = q_run 122 201 [(0, .ref x0), (1, .int x1), (2, .int x2), (3, .int x3), (4, .int x4), (5, .int x5), (7, .int x7), (8, .int s0), (9, .int x9), (10, .int (x10 + (nI 1)))] [] σ := (q_run_un 122 [15, 27, 62, 89, 144, 195, 196, 201, 253, 257, 258, 292, 313, 314] 184 ..).trans rfl
set_option maxRecDepth 100000 in
theorem e_122_292 (x0 : Nat) (x1 : Int32) (x4 : Int32) (x5 : Int32) (x7 : Int32) (σ : qH) : q_run 122 292 [(0, .ref x0), (1, .int x1), (4, .int x4), (5, .int x5), (7, .int x7)] [] σ = q_ob (q_cI (q_call 65 [.int x7] σ)) none fun p1 => if nI 0 ≤ x1 then q_ob (q_getR p1.2 (.ref x0) 7 5) none fun v2 => q_ob (q_aldI p1.2 (.ref v2) 1 x1) none fun v3 => q_run 122 313 [(0, .ref x0), (1, .int x1), (2, .int p1.1), (4, .int x4), (5, .int x5)] [.int v3] p1.2 else q_run 122 313 [(0, .ref x0), (1, .int x1), (2, .int p1.1), (4, .int x4), (5, .int x5)] [.int (-9 : Int32)] p1.2 := (q_run_un 122 [15, 27, 62, 89, 144, 195, 196, 201, 253, 257, 258, 292, 313, 314] 184 ..).trans rfl
set_option maxRecDepth 100000 in
theorem e_122_313 (x0 : Nat) (x1 : Int32) (x2 : Int32) (x4 : Int32) (x5 : Int32) (s0 : Int32) (σ : qH) : q_run 122 313 [(0, .ref x0), (1, .int x1), (2, .int x2), (4, .int x4), (5, .int x5)] [.int s0] σ = q_run 122 314 [(0, .ref x0), (1, .int x1), (2, .int x2), (3, .int s0), (4, .int x4), (5, .int x5)] [] σ := (q_run_un 122 [15, 27, 62, 89, 144, 195, 196, 201, 253, 257, 258, 292, 313, 314] 184 ..).trans rfl
set_option maxRecDepth 100000 in
theorem e_122_314 (x0 : Nat) (x1 : Int32) (x2 : Int32) (x3 : Int32) (x4 : Int32) (x5 : Int32) (σ : qH) : q_run 122 314 [(0, .ref x0), (1, .int x1), (2, .int x2), (3, .int x3), (4, .int x4), (5, .int x5)] [] σ = q_run 122 62 [(0, .ref x0), (1, .int x1), (2, .int x2), (3, .int x3), (4, .int x4), (5, .int (x5 + (nI 1)))] [] σ := (q_run_un 122 [15, 27, 62, 89, 144, 195, 196, 201, 253, 257, 258, 292, 313, 314] 184 ..).trans rfl
-- 123 X6_power
set_option maxRecDepth 100000 in
theorem e_123_0 (x0 : Int32) (x1 : Int32) (σ : qH) : q_run 123 0 [(0, .int x0), (1, .int x1)] [] σ = q_run 123 4 [(0, .int x0), (1, .int x1), (2, .int (nI 1)), (3, .int (nI 0))] [] σ := (q_run_un 123 [4] 17 ..).trans rfl
set_option maxRecDepth 100000 in
theorem e_123_4 (x0 : Int32) (x1 : Int32) (x2 : Int32) (x3 : Int32) (σ : qH) : q_run 123 4 [(0, .int x0), (1, .int x1), (2, .int x2), (3, .int x3)] [] σ = if x1 ≤ x3 then some (some (.int x2), σ) else q_run 123 4 [(0, .int x0), (1, .int x1), (2, .int (x2 * x0)), (3, .int (x3 + (nI 1)))] [] σ := (q_run_un 123 [4] 17 ..).trans rfl
-- 124 X6_commonDivisor
set_option maxRecDepth 100000 in
theorem e_124_0 (x0 : Int32) (x1 : Int32) (σ : qH) : q_run 124 0 [(0, .int x0), (1, .int x1)] [] σ = q_run 124 7 [(2, .int x0), (3, .int x1), (4, .int (nI 0))] [] σ := (q_run_un 124 [7, 34] 25 ..).trans rfl
set_option maxRecDepth 100000 in
theorem e_124_7 (x2 : Int32) (x3 : Int32) (x4 : Int32) (σ : qH) : q_run 124 7 [(2, .int x2), (3, .int x3), (4, .int x4)] [] σ = if (nI 100) ≤ x4 then q_run 124 34 [(2, .int x2)] [] σ else if x3 = nI 0 then q_run 124 34 [(2, .int x2)] [] σ else if x3 = nI 0 then none else q_run 124 7 [(2, .int x3), (3, .int (x2 - x2 / x3 * x3)), (4, .int (x4 + (nI 1)))] [] σ := (q_run_un 124 [7, 34] 25 ..).trans rfl
set_option maxRecDepth 100000 in
theorem e_124_34 (x2 : Int32) (σ : qH) : q_run 124 34 [(2, .int x2)] [] σ = some (some (.int x2), σ) := (q_run_un 124 [7, 34] 25 ..).trans rfl
-- 125 X6_odds
set_option maxRecDepth 100000 in
theorem e_125_0 (x0 : Nat) (x1 : Int32) (x2 : Int32) (x3 : Int32) (σ : qH) : q_run 125 0 [(0, .ref x0), (1, .int x1), (2, .int x2), (3, .int x3)] [] σ = if x1 < nI 0 then q_run 125 28 [] [] σ else if (nI 10) < x1 then q_run 125 28 [] [] σ else if x2 < nI 0 then q_run 125 28 [] [] σ else if (nI 5) < x2 then q_run 125 28 [] [] σ else if x3 < nI 0 then q_run 125 28 [] [] σ else if x3 ≤ (nI 1) then q_ob (q_getR σ (.ref x0) 6 2) none fun v1 => q_ob (q_getI σ (.ref v1) 3 1) none fun v2 => q_ob (q_cI (q_call 123 [.int (nI 10), .int v2] σ)) none fun p3 => q_run 125 50 [(0, .ref x0), (1, .int x1), (2, .int x2), (3, .int x3), (4, .int p3.1), (5, .int (nI 0)), (6, .int (nI 0))] [] p3.2 else q_run 125 28 [] [] σ := (q_run_un 125 [28, 50, 106, 139] 76 ..).trans rfl
set_option maxRecDepth 100000 in
theorem e_125_28  (σ : qH) : q_run 125 28 [] [] σ = some (some (.int (-1 : Int32)), σ) := (q_run_un 125 [28, 50, 106, 139] 76 ..).trans rfl
set_option maxRecDepth 100000 in
theorem e_125_50 (x0 : Nat) (x1 : Int32) (x2 : Int32) (x3 : Int32) (x4 : Int32) (x5 : Int32) (x6 : Int32) (σ : qH) : q_run 125 50 [(0, .ref x0), (1, .int x1), (2, .int x2), (3, .int x3), (4, .int x4), (5, .int x5), (6, .int x6)] [] σ = q_ob (q_getR σ (.ref x0) 6 2) none fun v1 => q_ob (q_getI σ (.ref v1) 3 1) none fun v2 => if ((nI 1) <<< (v2 &&& 31)) ≤ x6 then q_ob (q_cI (q_call 124 [.int x5, .int x4] σ)) none fun p3 => if nI 0 < p3.1 then if x3 = nI 0 then q_run 125 139 [(6, .int p3.1)] [.int x5] p3.2 else q_run 125 139 [(6, .int p3.1)] [.int x4] p3.2 else some (some (.int (-1 : Int32)), p3.2) else q_ob (q_cI (q_call 88 [.int x6] σ)) none fun p4 => if x2 < p4.1 then q_run 125 106 [(0, .ref x0), (1, .int x1), (2, .int x2), (3, .int x3), (4, .int x4), (5, .int x5), (6, .int x6)] [] p4.2 else q_ob (q_cI (q_call 123 [.int x1, .int p4.1] p4.2)) none fun p5 => q_ob (q_getR p5.2 (.ref x0) 6 2) none fun v6 => q_ob (q_getI p5.2 (.ref v6) 3 1) none fun v7 => q_ob (q_cI (q_call 123 [.int ((nI 10) - x1), .int (v7 - p4.1)] p5.2)) none fun p8 => q_run 125 106 [(0, .ref x0), (1, .int x1), (2, .int x2), (3, .int x3), (4, .int x4), (5, .int (x5 + (p5.1 * p8.1))), (6, .int x6)] [] p8.2 := (q_run_un 125 [28, 50, 106, 139] 76 ..).trans rfl
set_option maxRecDepth 100000 in
theorem e_125_106 (x0 : Nat) (x1 : Int32) (x2 : Int32) (x3 : Int32) (x4 : Int32) (x5 : Int32) (x6 : Int32) (σ : qH) : q_run 125 106 [(0, .ref x0), (1, .int x1), (2, .int x2), (3, .int x3), (4, .int x4), (5, .int x5), (6, .int x6)] [] σ = q_run 125 50 [(0, .ref x0), (1, .int x1), (2, .int x2), (3, .int x3), (4, .int x4), (5, .int x5), (6, .int (x6 + (nI 1)))] [] σ := (q_run_un 125 [28, 50, 106, 139] 76 ..).trans rfl
set_option maxRecDepth 100000 in
theorem e_125_139 (x6 : Int32) (s0 : Int32) (σ : qH) : q_run 125 139 [(6, .int x6)] [.int s0] σ = if x6 = nI 0 then none else some (some (.int (s0 / x6)), σ) := (q_run_un 125 [28, 50, 106, 139] 76 ..).trans rfl
-- 126 X7_odds
set_option maxRecDepth 100000 in
theorem e_126_0 (x0 : Nat) (x1 : Int32) (x2 : Int32) (x3 : Int32) (σ : qH) : q_run 126 0 [(0, .ref x0), (1, .int x1), (2, .int x2), (3, .int x3)] [] σ = q_ob (q_cI (q_call 8 [.int x1, .int (nI 0), .int (nI 10)] σ)) none fun p1 => if p1.1 = nI 0 then q_run 126 28 [] [] p1.2 else q_ob (q_cI (q_call 8 [.int x2, .int (nI 0), .int (nI 5)] p1.2)) none fun p2 => if p2.1 = nI 0 then q_run 126 28 [] [] p2.2 else q_ob (q_cI (q_call 8 [.int x3, .int (nI 0), .int (nI 1)] p2.2)) none fun p3 => if p3.1 = nI 0 then q_run 126 28 [] [] p3.2 else q_run 126 39 [(0, .ref x0), (1, .int x1), (2, .int x2), (3, .int x3), (4, .int (nI 0)), (5, .int (nI 1)), (6, .int (nI 0))] [] p3.2 := (q_run_un 126 [28, 39, 66, 85, 116, 142, 159] 108 ..).trans rfl
set_option maxRecDepth 100000 in
theorem e_126_28  (σ : qH) : q_run 126 28 [] [] σ = some (some (.int (-1 : Int32)), σ) := (q_run_un 126 [28, 39, 66, 85, 116, 142, 159] 108 ..).trans rfl
set_option maxRecDepth 100000 in
theorem e_126_39 (x0 : Nat) (x1 : Int32) (x2 : Int32) (x3 : Int32) (x4 : Int32) (x5 : Int32) (x6 : Int32) (σ : qH) : q_run 126 39 [(0, .ref x0), (1, .int x1), (2, .int x2), (3, .int x3), (4, .int x4), (5, .int x5), (6, .int x6)] [] σ = q_ob (q_getR σ (.ref x0) 7 3) none fun v1 => q_ob (q_aldI σ (.ref v1) 1 (nI 1)) none fun v2 => if v2 ≤ x6 then q_run 126 66 [(0, .ref x0), (1, .int x1), (2, .int x2), (3, .int x3), (4, .int x4), (5, .int x5), (6, .int (nI 0))] [] σ else q_run 126 39 [(0, .ref x0), (1, .int x1), (2, .int x2), (3, .int x3), (4, .int x4), (5, .int (x5 * (nI 10))), (6, .int (x6 + (nI 1)))] [] σ := (q_run_un 126 [28, 39, 66, 85, 116, 142, 159] 108 ..).trans rfl
set_option maxRecDepth 100000 in
theorem e_126_66 (x0 : Nat) (x1 : Int32) (x2 : Int32) (x3 : Int32) (x4 : Int32) (x5 : Int32) (x6 : Int32) (σ : qH) : q_run 126 66 [(0, .ref x0), (1, .int x1), (2, .int x2), (3, .int x3), (4, .int x4), (5, .int x5), (6, .int x6)] [] σ = q_ob (q_getR σ (.ref x0) 7 3) none fun v1 => q_ob (q_aldI σ (.ref v1) 1 (nI 1)) none fun v2 => if ((nI 1) <<< (v2 &&& 31)) ≤ x6 then q_run 126 159 [(3, .int x3), (4, .int x4), (5, .int x5), (6, .int x4), (7, .int x5)] [] σ else q_run 126 85 [(0, .ref x0), (1, .int x1), (2, .int x2), (3, .int x3), (4, .int x4), (5, .int x5), (6, .int x6), (7, .int (nI 1)), (8, .int (nI 0))] [] σ := (q_run_un 126 [28, 39, 66, 85, 116, 142, 159] 108 ..).trans rfl
set_option maxRecDepth 100000 in
theorem e_126_85 (x0 : Nat) (x1 : Int32) (x2 : Int32) (x3 : Int32) (x4 : Int32) (x5 : Int32) (x6 : Int32) (x7 : Int32) (x8 : Int32) (σ : qH) : q_run 126 85 [(0, .ref x0), (1, .int x1), (2, .int x2), (3, .int x3), (4, .int x4), (5, .int x5), (6, .int x6), (7, .int x7), (8, .int x8)] [] σ = q_ob (q_getR σ (.ref x0) 7 3) none fun v1 => q_ob (q_aldI σ (.ref v1) 1 (nI 1)) none fun v2 => if v2 ≤ x8 then q_ob (q_cI (q_call 65 [.int x6] σ)) none fun p3 => if x2 < p3.1 then q_run 126 142 [(0, .ref x0), (1, .int x1), (2, .int x2), (3, .int x3), (5, .int x5), (6, .int x6)] [.int (nI 0), .int x4] p3.2 else q_run 126 142 [(0, .ref x0), (1, .int x1), (2, .int x2), (3, .int x3), (5, .int x5), (6, .int x6)] [.int x7, .int x4] p3.2 else q_ob (q_cI (q_call 64 [.int x6, .int x8] σ)) none fun p4 => if p4.1 = nI 0 then q_run 126 116 [(0, .ref x0), (1, .int x1), (2, .int x2), (3, .int x3), (4, .int x4), (5, .int x5), (6, .int x6), (8, .int x8)] [.int ((nI 10) - x1), .int x7] p4.2 else q_run 126 116 [(0, .ref x0), (1, .int x1), (2, .int x2), (3, .int x3), (4, .int x4), (5, .int x5), (6, .int x6), (8, .int x8)] [.int x1, .int x7] p4.2 := (q_run_un 126 [28, 39, 66, 85, 116, 142, 159] 108 ..).trans rfl
set_option maxRecDepth 100000 in
theorem e_126_116 (x0 : Nat) (x1 : Int32) (x2 : Int32) (x3 : Int32) (x4 : Int32) (x5 : Int32) (x6 : Int32) (x8 : Int32) (s0 : Int32) (s1 : Int32) (σ : qH) : q_run 126 116 [(0, .ref x0), (1, .int x1), (2, .int x2), (3, .int x3), (4, .int x4), (5, .int x5), (6, .int x6), (8, .int x8)] [.int s0, .int s1] σ = q_run 126 85 [(0, .ref x0), (1, .int x1), (2, .int x2), (3, .int x3), (4, .int x4), (5, .int x5), (6, .int x6), (7, .int (s1 * s0)), (8, .int (x8 + (nI 1)))] [] σ := (q_run_un 126 [28, 39, 66, 85, 116, 142, 159] 108 ..).trans rfl
set_option maxRecDepth 100000 in
theorem e_126_142 (x0 : Nat) (x1 : Int32) (x2 : Int32) (x3 : Int32) (x5 : Int32) (x6 : Int32) (s0 : Int32) (s1 : Int32) (σ : qH) : q_run 126 142 [(0, .ref x0), (1, .int x1), (2, .int x2), (3, .int x3), (5, .int x5), (6, .int x6)] [.int s0, .int s1] σ = q_run 126 66 [(0, .ref x0), (1, .int x1), (2, .int x2), (3, .int x3), (4, .int (s1 + s0)), (5, .int x5), (6, .int (x6 + (nI 1)))] [] σ := (q_run_un 126 [28, 39, 66, 85, 116, 142, 159] 108 ..).trans rfl
set_option maxRecDepth 100000 in
theorem e_126_159 (x3 : Int32) (x4 : Int32) (x5 : Int32) (x6 : Int32) (x7 : Int32) (σ : qH) : q_run 126 159 [(3, .int x3), (4, .int x4), (5, .int x5), (6, .int x6), (7, .int x7)] [] σ = if x7 ≤ nI 0 then if x3 = nI 0 then if x6 = nI 0 then none else some (some (.int (x4 / x6)), σ) else if x6 = nI 0 then none else some (some (.int (x5 / x6)), σ) else if x7 = nI 0 then none else q_run 126 159 [(3, .int x3), (4, .int x4), (5, .int x5), (6, .int x7), (7, .int (x6 - x6 / x7 * x7))] [] σ := (q_run_un 126 [28, 39, 66, 85, 116, 142, 159] 108 ..).trans rfl
-- 127 X1_hear
set_option maxRecDepth 100000 in
theorem e_127_0 (x0 : Nat) (x1 : Int32) (x2 : Int32) (σ : qH) : q_run 127 0 [(0, .ref x0), (1, .int x1), (2, .int x2)] [] σ = q_ob (q_getI σ (.ref x0) 1 3) none fun v1 => if v1 < (nI 6) then q_ob (q_getL σ (.ref x0) 1 0) none fun v2 => q_ob (q_getI σ (.ref x0) 1 3) none fun v3 => q_ob (q_cL (q_call 33 [.long v2, .int v3, .int x1] σ)) none fun p4 => q_ob (q_put p4.2 (.ref x0) 1 0 1 (.long p4.1)) none fun h5 => q_ob (q_getL h5 (.ref x0) 1 1) none fun v6 => q_ob (q_getI h5 (.ref x0) 1 3) none fun v7 => q_ob (q_cL (q_call 33 [.long v6, .int v7, .int x2] h5)) none fun p8 => q_ob (q_put p8.2 (.ref x0) 1 1 1 (.long p8.1)) none fun h9 => q_ob (q_getI h9 (.ref x0) 1 3) none fun v10 => q_ob (q_put h9 (.ref x0) 1 3 0 (.int (v10 + (nI 1)))) none fun h11 => some (some (.int (nI 1)), h11) else some (some (.int (nI 0)), σ) := (q_run_un 127 [] 32 ..).trans rfl
-- 128 X6_tells
set_option maxRecDepth 100000 in
theorem e_128_0 (x0 : Nat) (x1 : Int32) (x2 : Int32) (σ : qH) : q_run 128 0 [(0, .ref x0), (1, .int x1), (2, .int x2)] [] σ = if x1 < (nI 1) then q_run 128 28 [] [] σ else q_ob (q_getR σ (.ref x0) 6 2) none fun v1 => q_ob (q_getI σ (.ref v1) 3 1) none fun v2 => if ((nI 1) <<< (v2 &&& 31)) ≤ x1 then q_run 128 28 [] [] σ else if x2 < nI 0 then q_run 128 28 [] [] σ else if x2 ≤ (nI 45) then q_ob (q_getR σ (.ref x0) 6 8) none fun v3 => q_ob (q_cI (q_call 127 [.ref v3, .int x1, .int x2] σ)) none fun p4 => if p4.1 = nI 0 then some (some (.int (-3 : Int32)), p4.2) else q_ob (q_getR p4.2 (.ref x0) 6 8) none fun v5 => q_ob (q_getI p4.2 (.ref v5) 1 3) none fun v6 => some (some (.int v6), p4.2) else q_run 128 28 [] [] σ := (q_run_un 128 [28] 31 ..).trans rfl
set_option maxRecDepth 100000 in
theorem e_128_28  (σ : qH) : q_run 128 28 [] [] σ = some (some (.int (-1 : Int32)), σ) := (q_run_un 128 [28] 31 ..).trans rfl
-- 129 X7_tells
set_option maxRecDepth 100000 in
theorem e_129_0 (x0 : Nat) (x1 : Int32) (x2 : Int32) (σ : qH) : q_run 129 0 [(0, .ref x0), (1, .int x1), (2, .int x2)] [] σ = q_ob (q_getR σ (.ref x0) 7 3) none fun v1 => q_ob (q_aldI σ (.ref v1) 1 (nI 1)) none fun v2 => q_ob (q_cI (q_call 8 [.int x1, .int (nI 1), .int (((nI 1) <<< (v2 &&& 31)) - (nI 1))] σ)) none fun p3 => if p3.1 = nI 0 then q_run 129 28 [] [] p3.2 else q_ob (q_cI (q_call 8 [.int x2, .int (nI 0), .int (nI 45)] p3.2)) none fun p4 => if p4.1 = nI 0 then q_run 129 28 [] [] p4.2 else q_ob (q_getI p4.2 (.ref x0) 7 11) none fun v5 => if v5 = (nI 6) then some (some (.int (-3 : Int32)), p4.2) else q_ob (q_getR p4.2 (.ref x0) 7 10) none fun v6 => q_ob (q_getI p4.2 (.ref x0) 7 11) none fun v7 => q_ob (q_astI p4.2 (.ref v6) 1 ((nI 2) * v7) x1) none fun h8 => q_ob (q_getR h8 (.ref x0) 7 10) none fun v9 => q_ob (q_getI h8 (.ref x0) 7 11) none fun v10 => q_ob (q_astI h8 (.ref v9) 1 (((nI 2) * v10) + (nI 1)) x2) none fun h11 => q_ob (q_getI h11 (.ref x0) 7 11) none fun v12 => q_ob (q_put h11 (.ref x0) 7 11 0 (.int (v12 + (nI 1)))) none fun h13 => q_ob (q_getI h13 (.ref x0) 7 11) none fun v14 => some (some (.int v14), h13) := (q_run_un 129 [28] 54 ..).trans rfl
set_option maxRecDepth 100000 in
theorem e_129_28  (σ : qH) : q_run 129 28 [] [] σ = some (some (.int (-1 : Int32)), σ) := (q_run_un 129 [28] 54 ..).trans rfl
-- 130 X6_forget
set_option maxRecDepth 100000 in
theorem e_130_0 (x0 : Nat) (σ : qH) : q_run 130 0 [(0, .ref x0)] [] σ = q_ob (q_getR σ (.ref x0) 6 8) none fun v1 => q_ob (q_getI σ (.ref v1) 1 3) none fun v2 => q_ob (q_getR σ (.ref x0) 6 8) none fun v3 => q_ob (q_cV (q_call 46 [.ref v3] σ)) none fun h4 => some (some (.int v2), h4) := (q_run_un 130 [] 11 ..).trans rfl
-- 131 X7_forget
set_option maxRecDepth 100000 in
theorem e_131_0 (x0 : Nat) (σ : qH) : q_run 131 0 [(0, .ref x0)] [] σ = q_ob (q_getI σ (.ref x0) 7 11) none fun v1 => q_ob (q_put σ (.ref x0) 7 11 0 (.int (nI 0))) none fun h2 => some (some (.int v1), h2) := (q_run_un 131 [] 10 ..).trans rfl
-- 132 X1_eatenBy
set_option maxRecDepth 100000 in
theorem e_132_0 (x0 : Nat) (x1 : Int32) (σ : qH) : q_run 132 0 [(0, .ref x0), (1, .int x1)] [] σ = q_run 132 4 [(0, .ref x0), (1, .int x1), (2, .int (nI 0)), (3, .int (nI 0))] [] σ := (q_run_un 132 [4, 31] 25 ..).trans rfl
set_option maxRecDepth 100000 in
theorem e_132_4 (x0 : Nat) (x1 : Int32) (x2 : Int32) (x3 : Int32) (σ : qH) : q_run 132 4 [(0, .ref x0), (1, .int x1), (2, .int x2), (3, .int x3)] [] σ = q_ob (q_getI σ (.ref x0) 3 1) none fun v1 => if v1 ≤ x3 then some (some (.int x2), σ) else q_ob (q_cI (q_call 52 [.int x1, .int x3] σ)) none fun p2 => if p2.1 = nI 0 then q_run 132 31 [(0, .ref x0), (1, .int x1), (2, .int x2), (3, .int x3)] [] p2.2 else q_ob (q_getL p2.2 (.ref x0) 3 8) none fun v3 => q_ob (q_cI (q_call 35 [.long v3, .int x3] p2.2)) none fun p4 => q_run 132 31 [(0, .ref x0), (1, .int x1), (2, .int (x2 + p4.1)), (3, .int x3)] [] p4.2 := (q_run_un 132 [4, 31] 25 ..).trans rfl
set_option maxRecDepth 100000 in
theorem e_132_31 (x0 : Nat) (x1 : Int32) (x2 : Int32) (x3 : Int32) (σ : qH) : q_run 132 31 [(0, .ref x0), (1, .int x1), (2, .int x2), (3, .int x3)] [] σ = q_run 132 4 [(0, .ref x0), (1, .int x1), (2, .int x2), (3, .int (x3 + (nI 1)))] [] σ := (q_run_un 132 [4, 31] 25 ..).trans rfl
-- 133 X1_agrees
set_option maxRecDepth 100000 in
theorem e_133_0 (x0 : Nat) (x1 : Nat) (x2 : Int32) (σ : qH) : q_run 133 0 [(0, .ref x0), (1, .ref x1), (2, .int x2)] [] σ = q_run 133 2 [(0, .ref x0), (1, .ref x1), (2, .int x2), (3, .int (nI 0))] [] σ := (q_run_un 133 [2] 27 ..).trans rfl
set_option maxRecDepth 100000 in
theorem e_133_2 (x0 : Nat) (x1 : Nat) (x2 : Int32) (x3 : Int32) (σ : qH) : q_run 133 2 [(0, .ref x0), (1, .ref x1), (2, .int x2), (3, .int x3)] [] σ = q_ob (q_getI σ (.ref x0) 1 3) none fun v1 => if v1 ≤ x3 then some (some (.int (nI 1)), σ) else q_ob (q_getL σ (.ref x0) 1 0) none fun v2 => q_ob (q_cI (q_call 35 [.long v2, .int x3] σ)) none fun p3 => q_ob (q_cI (q_call 132 [.ref x1, .int (x2 &&& p3.1)] p3.2)) none fun p4 => q_ob (q_getL p4.2 (.ref x0) 1 1) none fun v5 => q_ob (q_cI (q_call 35 [.long v5, .int x3] p4.2)) none fun p6 => if p4.1 = p6.1 then q_run 133 2 [(0, .ref x0), (1, .ref x1), (2, .int x2), (3, .int (x3 + (nI 1)))] [] p6.2 else some (some (.int (nI 0)), p6.2) := (q_run_un 133 [2] 27 ..).trans rfl
-- 134 X1_add
set_option maxRecDepth 100000 in
theorem e_134_0 (x0 : Nat) (x1 : Nat) (x2 : Int32) (σ : qH) : q_run 134 0 [(0, .ref x0), (1, .ref x1), (2, .int x2)] [] σ = q_ob (q_getI σ (.ref x0) 1 4) none fun v1 => q_ob (q_put σ (.ref x0) 1 4 0 (.int (v1 + (nI 1)))) none fun h2 => q_ob (q_getI h2 (.ref x0) 1 5) none fun v3 => q_ob (q_put h2 (.ref x0) 1 5 0 (.int (v3 &&& x2))) none fun h4 => q_ob (q_getI h4 (.ref x0) 1 6) none fun v5 => q_ob (q_put h4 (.ref x0) 1 6 0 (.int (v5 ||| x2))) none fun h6 => q_run 134 32 [(0, .ref x0), (1, .ref x1), (2, .int x2), (3, .int (nI 0))] [] h6 := (q_run_un 134 [32, 63] 43 ..).trans rfl
set_option maxRecDepth 100000 in
theorem e_134_32 (x0 : Nat) (x1 : Nat) (x2 : Int32) (x3 : Int32) (σ : qH) : q_run 134 32 [(0, .ref x0), (1, .ref x1), (2, .int x2), (3, .int x3)] [] σ = q_ob (q_getI σ (.ref x1) 3 1) none fun v1 => if v1 ≤ x3 then some (none, σ) else q_ob (q_cI (q_call 52 [.int x2, .int x3] σ)) none fun p2 => if p2.1 = nI 0 then q_run 134 63 [(0, .ref x0), (1, .ref x1), (2, .int x2), (3, .int x3)] [] p2.2 else q_ob (q_getL p2.2 (.ref x0) 1 2) none fun v3 => q_ob (q_put p2.2 (.ref x0) 1 2 1 (.long (v3 + ((lN 1) <<< (Int32.toInt64 ((nI 8) * x3) &&& 63))))) none fun h4 => q_run 134 63 [(0, .ref x0), (1, .ref x1), (2, .int x2), (3, .int x3)] [] h4 := (q_run_un 134 [32, 63] 43 ..).trans rfl
set_option maxRecDepth 100000 in
theorem e_134_63 (x0 : Nat) (x1 : Nat) (x2 : Int32) (x3 : Int32) (σ : qH) : q_run 134 63 [(0, .ref x0), (1, .ref x1), (2, .int x2), (3, .int x3)] [] σ = q_run 134 32 [(0, .ref x0), (1, .ref x1), (2, .int x2), (3, .int (x3 + (nI 1)))] [] σ := (q_run_un 134 [32, 63] 43 ..).trans rfl
-- 135 X1_weigh
set_option maxRecDepth 100000 in
theorem e_135_0 (x0 : Nat) (x1 : Nat) (σ : qH) : q_run 135 0 [(0, .ref x0), (1, .ref x1)] [] σ = q_ob (q_put σ (.ref x0) 1 4 0 (.int (nI 0))) none fun h1 => q_ob (q_put h1 (.ref x0) 1 2 1 (.long (lN 0))) none fun h2 => q_ob (q_getI h2 (.ref x1) 3 1) none fun v3 => q_ob (q_put h2 (.ref x0) 1 5 0 (.int (((nI 1) <<< (v3 &&& 31)) - (nI 1)))) none fun h4 => q_ob (q_put h4 (.ref x0) 1 6 0 (.int (nI 0))) none fun h5 => q_run 135 29 [(0, .ref x0), (1, .ref x1), (2, .int (nI 0))] [] h5 := (q_run_un 135 [29, 54] 39 ..).trans rfl
set_option maxRecDepth 100000 in
theorem e_135_29 (x0 : Nat) (x1 : Nat) (x2 : Int32) (σ : qH) : q_run 135 29 [(0, .ref x0), (1, .ref x1), (2, .int x2)] [] σ = q_ob (q_getI σ (.ref x1) 3 1) none fun v1 => if ((nI 1) <<< (v1 &&& 31)) ≤ x2 then some (none, σ) else q_ob (q_cI (q_call 133 [.ref x0, .ref x1, .int x2] σ)) none fun p2 => if p2.1 = nI 0 then q_run 135 54 [(0, .ref x0), (1, .ref x1), (2, .int x2)] [] p2.2 else q_ob (q_cV (q_call 134 [.ref x0, .ref x1, .int x2] p2.2)) none fun h3 => q_run 135 54 [(0, .ref x0), (1, .ref x1), (2, .int x2)] [] h3 := (q_run_un 135 [29, 54] 39 ..).trans rfl
set_option maxRecDepth 100000 in
theorem e_135_54 (x0 : Nat) (x1 : Nat) (x2 : Int32) (σ : qH) : q_run 135 54 [(0, .ref x0), (1, .ref x1), (2, .int x2)] [] σ = q_run 135 29 [(0, .ref x0), (1, .ref x1), (2, .int (x2 + (nI 1)))] [] σ := (q_run_un 135 [29, 54] 39 ..).trans rfl
-- 136 X6_can
set_option maxRecDepth 100000 in
theorem e_136_0 (x0 : Nat) (x1 : Int32) (σ : qH) : q_run 136 0 [(0, .ref x0), (1, .int x1)] [] σ = if x1 < nI 0 then q_run 136 9 [] [] σ else if x1 ≤ (nI 2) then q_ob (q_getR σ (.ref x0) 6 8) none fun v1 => q_ob (q_getR σ (.ref x0) 6 2) none fun v2 => q_ob (q_cV (q_call 135 [.ref v1, .ref v2] σ)) none fun h3 => if x1 = nI 0 then q_ob (q_getR h3 (.ref x0) 6 8) none fun v10 => q_ob (q_getI h3 (.ref v10) 1 4) none fun v11 => some (some (.int v11), h3) else if x1 = (nI 2) then q_ob (q_getR h3 (.ref x0) 6 8) none fun v8 => q_ob (q_getI h3 (.ref v8) 1 6) none fun v9 => some (some (.int v9), h3) else q_ob (q_getR h3 (.ref x0) 6 8) none fun v4 => q_ob (q_getI h3 (.ref v4) 1 4) none fun v5 => if v5 = nI 0 then some (some (.int (-9 : Int32)), h3) else q_ob (q_getR h3 (.ref x0) 6 8) none fun v6 => q_ob (q_getI h3 (.ref v6) 1 5) none fun v7 => some (some (.int v7), h3) else q_run 136 9 [] [] σ := (q_run_un 136 [9] 37 ..).trans rfl
set_option maxRecDepth 100000 in
theorem e_136_9  (σ : qH) : q_run 136 9 [] [] σ = some (some (.int (-1 : Int32)), σ) := (q_run_un 136 [9] 37 ..).trans rfl
-- 137 X7_isSo
set_option maxRecDepth 100000 in
theorem e_137_0 (x0 : Nat) (x1 : Int32) (σ : qH) : q_run 137 0 [(0, .ref x0), (1, .int x1)] [] σ = q_run 137 4 [(0, .ref x0), (1, .int x1), (2, .int (nI 1)), (3, .int (nI 0))] [] σ := (q_run_un 137 [4, 18, 63, 95, 96] 64 ..).trans rfl
set_option maxRecDepth 100000 in
theorem e_137_4 (x0 : Nat) (x1 : Int32) (x2 : Int32) (x3 : Int32) (σ : qH) : q_run 137 4 [(0, .ref x0), (1, .int x1), (2, .int x2), (3, .int x3)] [] σ = q_ob (q_getI σ (.ref x0) 7 11) none fun v1 => if v1 ≤ x3 then q_bt (q_okv 4 (.int x2)) (some (some (.int x2), σ)) none else q_run 137 18 [(0, .ref x0), (1, .int x1), (2, .int x2), (3, .int x3), (4, .int (nI 0)), (5, .int (nI 0))] [] σ := (q_run_un 137 [4, 18, 63, 95, 96] 64 ..).trans rfl
set_option maxRecDepth 100000 in
theorem e_137_18 (x0 : Nat) (x1 : Int32) (x2 : Int32) (x3 : Int32) (x4 : Int32) (x5 : Int32) (σ : qH) : q_run 137 18 [(0, .ref x0), (1, .int x1), (2, .int x2), (3, .int x3), (4, .int x4), (5, .int x5)] [] σ = q_ob (q_getR σ (.ref x0) 7 3) none fun v1 => q_ob (q_aldI σ (.ref v1) 1 (nI 1)) none fun v2 => if v2 ≤ x5 then if x2 = nI 0 then q_run 137 95 [(0, .ref x0), (1, .int x1), (3, .int x3)] [] σ else q_ob (q_getR σ (.ref x0) 7 10) none fun v3 => q_ob (q_aldI σ (.ref v3) 1 (((nI 2) * x3) + (nI 1))) none fun v4 => if x4 = v4 then q_run 137 96 [(0, .ref x0), (1, .int x1), (3, .int x3)] [.int (nI 1)] σ else q_run 137 95 [(0, .ref x0), (1, .int x1), (3, .int x3)] [] σ else q_ob (q_getR σ (.ref x0) 7 10) none fun v5 => q_ob (q_aldI σ (.ref v5) 1 ((nI 2) * x3)) none fun v6 => q_ob (q_cI (q_call 64 [.int (x1 &&& v6), .int x5] σ)) none fun p7 => if p7.1 = nI 0 then q_run 137 63 [(0, .ref x0), (1, .int x1), (2, .int x2), (3, .int x3), (5, .int x5)] [.int (nI 0), .int x4] p7.2 else q_ob (q_getR p7.2 (.ref x0) 7 3) none fun v8 => q_ob (q_aldI p7.2 (.ref v8) 1 ((nI 25) + x5)) none fun v9 => q_run 137 63 [(0, .ref x0), (1, .int x1), (2, .int x2), (3, .int x3), (5, .int x5)] [.int v9, .int x4] p7.2 := (q_run_un 137 [4, 18, 63, 95, 96] 64 ..).trans rfl
set_option maxRecDepth 100000 in
theorem e_137_63 (x0 : Nat) (x1 : Int32) (x2 : Int32) (x3 : Int32) (x5 : Int32) (s0 : Int32) (s1 : Int32) (σ : qH) : q_run 137 63 [(0, .ref x0), (1, .int x1), (2, .int x2), (3, .int x3), (5, .int x5)] [.int s0, .int s1] σ = q_run 137 18 [(0, .ref x0), (1, .int x1), (2, .int x2), (3, .int x3), (4, .int (s1 + s0)), (5, .int (x5 + (nI 1)))] [] σ := (q_run_un 137 [4, 18, 63, 95, 96] 64 ..).trans rfl
set_option maxRecDepth 100000 in
theorem e_137_95 (x0 : Nat) (x1 : Int32) (x3 : Int32) (σ : qH) : q_run 137 95 [(0, .ref x0), (1, .int x1), (3, .int x3)] [] σ = q_run 137 96 [(0, .ref x0), (1, .int x1), (3, .int x3)] [.int (nI 0)] σ := (q_run_un 137 [4, 18, 63, 95, 96] 64 ..).trans rfl
set_option maxRecDepth 100000 in
theorem e_137_96 (x0 : Nat) (x1 : Int32) (x3 : Int32) (s0 : Int32) (σ : qH) : q_run 137 96 [(0, .ref x0), (1, .int x1), (3, .int x3)] [.int s0] σ = q_run 137 4 [(0, .ref x0), (1, .int x1), (2, .int s0), (3, .int (x3 + (nI 1)))] [] σ := (q_run_un 137 [4, 18, 63, 95, 96] 64 ..).trans rfl
-- 138 X7_manyWith
set_option maxRecDepth 100000 in
theorem e_138_0 (x0 : Nat) (x1 : Int32) (σ : qH) : q_run 138 0 [(0, .ref x0), (1, .int x1)] [] σ = q_run 138 4 [(0, .ref x0), (1, .int x1), (2, .int (nI 0)), (3, .int (nI 0))] [] σ := (q_run_un 138 [4, 31, 43, 44] 35 ..).trans rfl
set_option maxRecDepth 100000 in
theorem e_138_4 (x0 : Nat) (x1 : Int32) (x2 : Int32) (x3 : Int32) (σ : qH) : q_run 138 4 [(0, .ref x0), (1, .int x1), (2, .int x2), (3, .int x3)] [] σ = q_ob (q_getR σ (.ref x0) 7 3) none fun v1 => q_ob (q_aldI σ (.ref v1) 1 (nI 1)) none fun v2 => if ((nI 1) <<< (v2 &&& 31)) ≤ x3 then some (some (.int x2), σ) else if x1 = (-9 : Int32) then q_run 138 31 [(0, .ref x0), (1, .int x1), (3, .int x3)] [.int x2] σ else q_ob (q_cI (q_call 64 [.int x3, .int x1] σ)) none fun p3 => if p3.1 = nI 0 then q_run 138 43 [(0, .ref x0), (1, .int x1), (3, .int x3)] [.int x2] p3.2 else q_run 138 31 [(0, .ref x0), (1, .int x1), (3, .int x3)] [.int x2] p3.2 := (q_run_un 138 [4, 31, 43, 44] 35 ..).trans rfl
set_option maxRecDepth 100000 in
theorem e_138_31 (x0 : Nat) (x1 : Int32) (x3 : Int32) (s0 : Int32) (σ : qH) : q_run 138 31 [(0, .ref x0), (1, .int x1), (3, .int x3)] [.int s0] σ = q_ob (q_cI (q_call 137 [.ref x0, .int x3] σ)) none fun p1 => if p1.1 = nI 0 then q_run 138 43 [(0, .ref x0), (1, .int x1), (3, .int x3)] [.int s0] p1.2 else q_run 138 44 [(0, .ref x0), (1, .int x1), (3, .int x3)] [.int (nI 1), .int s0] p1.2 := (q_run_un 138 [4, 31, 43, 44] 35 ..).trans rfl
set_option maxRecDepth 100000 in
theorem e_138_43 (x0 : Nat) (x1 : Int32) (x3 : Int32) (s0 : Int32) (σ : qH) : q_run 138 43 [(0, .ref x0), (1, .int x1), (3, .int x3)] [.int s0] σ = q_run 138 44 [(0, .ref x0), (1, .int x1), (3, .int x3)] [.int (nI 0), .int s0] σ := (q_run_un 138 [4, 31, 43, 44] 35 ..).trans rfl
set_option maxRecDepth 100000 in
theorem e_138_44 (x0 : Nat) (x1 : Int32) (x3 : Int32) (s0 : Int32) (s1 : Int32) (σ : qH) : q_run 138 44 [(0, .ref x0), (1, .int x1), (3, .int x3)] [.int s0, .int s1] σ = q_run 138 4 [(0, .ref x0), (1, .int x1), (2, .int (s1 + s0)), (3, .int (x3 + (nI 1)))] [] σ := (q_run_un 138 [4, 31, 43, 44] 35 ..).trans rfl
-- 139 X7_can
set_option maxRecDepth 100000 in
theorem e_139_0 (x0 : Nat) (x1 : Int32) (σ : qH) : q_run 139 0 [(0, .ref x0), (1, .int x1)] [] σ = q_ob (q_cI (q_call 8 [.int x1, .int (nI 0), .int (nI 2)] σ)) none fun p1 => if p1.1 = nI 0 then some (some (.int (-1 : Int32)), p1.2) else q_ob (q_cI (q_call 138 [.ref x0, .int (-9 : Int32)] p1.2)) none fun p2 => q_run 139 26 [(0, .ref x0), (1, .int x1), (2, .int p2.1), (3, .int (nI 0)), (4, .int (nI 0)), (5, .int (nI 0))] [] p2.2 := (q_run_un 139 [26, 60, 77] 67 ..).trans rfl
set_option maxRecDepth 100000 in
theorem e_139_26 (x0 : Nat) (x1 : Int32) (x2 : Int32) (x3 : Int32) (x4 : Int32) (x5 : Int32) (σ : qH) : q_run 139 26 [(0, .ref x0), (1, .int x1), (2, .int x2), (3, .int x3), (4, .int x4), (5, .int x5)] [] σ = q_ob (q_getR σ (.ref x0) 7 3) none fun v1 => q_ob (q_aldI σ (.ref v1) 1 (nI 1)) none fun v2 => if v2 ≤ x5 then if x1 = nI 0 then some (some (.int x2), σ) else if x1 = (nI 2) then some (some (.int x4), σ) else if x2 = nI 0 then some (some (.int (-9 : Int32)), σ) else some (some (.int x3), σ) else q_ob (q_cI (q_call 138 [.ref x0, .int x5] σ)) none fun p3 => if p3.1 = x2 then q_run 139 60 [(0, .ref x0), (1, .int x1), (2, .int x2), (4, .int x4), (5, .int x5), (6, .int p3.1)] [.int ((nI 1) <<< (x5 &&& 31)), .int x3] p3.2 else q_run 139 60 [(0, .ref x0), (1, .int x1), (2, .int x2), (4, .int x4), (5, .int x5), (6, .int p3.1)] [.int (nI 0), .int x3] p3.2 := (q_run_un 139 [26, 60, 77] 67 ..).trans rfl
set_option maxRecDepth 100000 in
theorem e_139_60 (x0 : Nat) (x1 : Int32) (x2 : Int32) (x4 : Int32) (x5 : Int32) (x6 : Int32) (s0 : Int32) (s1 : Int32) (σ : qH) : q_run 139 60 [(0, .ref x0), (1, .int x1), (2, .int x2), (4, .int x4), (5, .int x5), (6, .int x6)] [.int s0, .int s1] σ = if x6 ≤ nI 0 then q_run 139 77 [(0, .ref x0), (1, .int x1), (2, .int x2), (3, .int (s1 ||| s0)), (5, .int x5)] [.int (nI 0), .int x4] σ else q_run 139 77 [(0, .ref x0), (1, .int x1), (2, .int x2), (3, .int (s1 ||| s0)), (5, .int x5)] [.int ((nI 1) <<< (x5 &&& 31)), .int x4] σ := (q_run_un 139 [26, 60, 77] 67 ..).trans rfl
set_option maxRecDepth 100000 in
theorem e_139_77 (x0 : Nat) (x1 : Int32) (x2 : Int32) (x3 : Int32) (x5 : Int32) (s0 : Int32) (s1 : Int32) (σ : qH) : q_run 139 77 [(0, .ref x0), (1, .int x1), (2, .int x2), (3, .int x3), (5, .int x5)] [.int s0, .int s1] σ = q_run 139 26 [(0, .ref x0), (1, .int x1), (2, .int x2), (3, .int x3), (4, .int (s1 ||| s0)), (5, .int (x5 + (nI 1)))] [] σ := (q_run_un 139 [26, 60, 77] 67 ..).trans rfl
-- 140 X1_bestAsked
set_option maxRecDepth 100000 in
theorem e_140_0 (x0 : Nat) (x1 : Int32) (σ : qH) : q_run 140 0 [(0, .ref x0), (1, .int x1)] [] σ = q_ob (q_getI σ (.ref x0) 1 4) none fun v1 => q_run 140 13 [(0, .ref x0), (1, .int x1), (2, .int (-9 : Int32)), (3, .int (v1 + (nI 1))), (4, .int (nI 0))] [] σ := (q_run_un 140 [13, 56] 37 ..).trans rfl
set_option maxRecDepth 100000 in
theorem e_140_13 (x0 : Nat) (x1 : Int32) (x2 : Int32) (x3 : Int32) (x4 : Int32) (σ : qH) : q_run 140 13 [(0, .ref x0), (1, .int x1), (2, .int x2), (3, .int x3), (4, .int x4)] [] σ = if x1 ≤ x4 then some (some (.int x2), σ) else q_ob (q_getL σ (.ref x0) 1 2) none fun v1 => q_ob (q_cI (q_call 35 [.long v1, .int x4] σ)) none fun p2 => q_ob (q_getI p2.2 (.ref x0) 1 4) none fun v3 => if x3 ≤ (q_max p2.1 (v3 - p2.1)) then q_run 140 56 [(0, .ref x0), (1, .int x1), (2, .int x2), (3, .int x3), (4, .int x4)] [] p2.2 else q_run 140 56 [(0, .ref x0), (1, .int x1), (2, .int x4), (3, .int (q_max p2.1 (v3 - p2.1))), (4, .int x4)] [] p2.2 := (q_run_un 140 [13, 56] 37 ..).trans rfl
set_option maxRecDepth 100000 in
theorem e_140_56 (x0 : Nat) (x1 : Int32) (x2 : Int32) (x3 : Int32) (x4 : Int32) (σ : qH) : q_run 140 56 [(0, .ref x0), (1, .int x1), (2, .int x2), (3, .int x3), (4, .int x4)] [] σ = q_run 140 13 [(0, .ref x0), (1, .int x1), (2, .int x2), (3, .int x3), (4, .int (x4 + (nI 1)))] [] σ := (q_run_un 140 [13, 56] 37 ..).trans rfl
-- 141 X6_ask
set_option maxRecDepth 100000 in
theorem e_141_0 (x0 : Nat) (σ : qH) : q_run 141 0 [(0, .ref x0)] [] σ = q_ob (q_getR σ (.ref x0) 6 8) none fun v1 => q_ob (q_getR σ (.ref x0) 6 2) none fun v2 => q_ob (q_cV (q_call 135 [.ref v1, .ref v2] σ)) none fun h3 => q_ob (q_getR h3 (.ref x0) 6 8) none fun v4 => q_ob (q_getI h3 (.ref v4) 1 4) none fun v5 => if (nI 1) < v5 then q_ob (q_getR h3 (.ref x0) 6 8) none fun v6 => q_ob (q_getR h3 (.ref x0) 6 2) none fun v7 => q_ob (q_getI h3 (.ref v7) 3 1) none fun v8 => q_ob (q_cI (q_call 140 [.ref v6, .int v8] h3)) none fun p9 => some (some (.int p9.1), p9.2) else some (some (.int (-9 : Int32)), h3) := (q_run_un 141 [] 21 ..).trans rfl
-- 142 X7_ask
set_option maxRecDepth 100000 in
theorem e_142_0 (x0 : Nat) (σ : qH) : q_run 142 0 [(0, .ref x0)] [] σ = q_ob (q_cI (q_call 138 [.ref x0, .int (-9 : Int32)] σ)) none fun p1 => q_run 142 17 [(0, .ref x0), (1, .int p1.1), (2, .int (-9 : Int32)), (3, .int (p1.1 + (nI 1))), (4, .int (nI 0))] [] p1.2 := (q_run_un 142 [17, 59, 73, 86, 93] 56 ..).trans rfl
set_option maxRecDepth 100000 in
theorem e_142_17 (x0 : Nat) (x1 : Int32) (x2 : Int32) (x3 : Int32) (x4 : Int32) (σ : qH) : q_run 142 17 [(0, .ref x0), (1, .int x1), (2, .int x2), (3, .int x3), (4, .int x4)] [] σ = q_ob (q_getR σ (.ref x0) 7 3) none fun v1 => q_ob (q_aldI σ (.ref v1) 1 (nI 1)) none fun v2 => if v2 ≤ x4 then q_run 142 93 [(2, .int x2)] [] σ else if x1 ≤ (nI 1) then q_run 142 93 [(2, .int x2)] [] σ else q_ob (q_cI (q_call 138 [.ref x0, .int x4] σ)) none fun p3 => if p3.1 ≤ (x1 - p3.1) then q_run 142 59 [(0, .ref x0), (1, .int x1), (2, .int x2), (3, .int x3), (4, .int x4)] [.int (x1 - p3.1)] p3.2 else q_run 142 59 [(0, .ref x0), (1, .int x1), (2, .int x2), (3, .int x3), (4, .int x4)] [.int p3.1] p3.2 := (q_run_un 142 [17, 59, 73, 86, 93] 56 ..).trans rfl
set_option maxRecDepth 100000 in
theorem e_142_59 (x0 : Nat) (x1 : Int32) (x2 : Int32) (x3 : Int32) (x4 : Int32) (s0 : Int32) (σ : qH) : q_run 142 59 [(0, .ref x0), (1, .int x1), (2, .int x2), (3, .int x3), (4, .int x4)] [.int s0] σ = if x3 ≤ s0 then q_run 142 73 [(0, .ref x0), (1, .int x1), (3, .int x3), (4, .int x4), (6, .int s0)] [.int x2] σ else q_run 142 73 [(0, .ref x0), (1, .int x1), (3, .int x3), (4, .int x4), (6, .int s0)] [.int x4] σ := (q_run_un 142 [17, 59, 73, 86, 93] 56 ..).trans rfl
set_option maxRecDepth 100000 in
theorem e_142_73 (x0 : Nat) (x1 : Int32) (x3 : Int32) (x4 : Int32) (x6 : Int32) (s0 : Int32) (σ : qH) : q_run 142 73 [(0, .ref x0), (1, .int x1), (3, .int x3), (4, .int x4), (6, .int x6)] [.int s0] σ = if x3 ≤ x6 then q_run 142 86 [(0, .ref x0), (1, .int x1), (2, .int s0), (4, .int x4)] [.int x3] σ else q_run 142 86 [(0, .ref x0), (1, .int x1), (2, .int s0), (4, .int x4)] [.int x6] σ := (q_run_un 142 [17, 59, 73, 86, 93] 56 ..).trans rfl
set_option maxRecDepth 100000 in
theorem e_142_86 (x0 : Nat) (x1 : Int32) (x2 : Int32) (x4 : Int32) (s0 : Int32) (σ : qH) : q_run 142 86 [(0, .ref x0), (1, .int x1), (2, .int x2), (4, .int x4)] [.int s0] σ = q_run 142 17 [(0, .ref x0), (1, .int x1), (2, .int x2), (3, .int s0), (4, .int (x4 + (nI 1)))] [] σ := (q_run_un 142 [17, 59, 73, 86, 93] 56 ..).trans rfl
set_option maxRecDepth 100000 in
theorem e_142_93 (x2 : Int32) (σ : qH) : q_run 142 93 [(2, .int x2)] [] σ = some (some (.int x2), σ) := (q_run_un 142 [17, 59, 73, 86, 93] 56 ..).trans rfl
-- 143 X6_pile
set_option maxRecDepth 100000 in
theorem e_143_0 (x0 : Nat) (x1 : Int32) (σ : qH) : q_run 143 0 [(0, .ref x0), (1, .int x1)] [] σ = q_ob (q_getL σ (.ref x0) 6 10) none fun v1 => q_ob (q_put σ (.ref x0) 6 10 1 (.long (v1 + (lN 1)))) none fun h2 => q_ob (q_getR h2 (.ref x0) 6 2) none fun v3 => q_ob (q_getL h2 (.ref v3) 3 8) none fun v4 => q_ob (q_cI (q_call 35 [.long v4, .int x1] h2)) none fun p5 => some (some (.int p5.1), p5.2) := (q_run_un 143 [] 14 ..).trans rfl
-- 144 X6_cord
set_option maxRecDepth 100000 in
theorem e_144_0 (x0 : Nat) (x1 : Int32) (σ : qH) : q_run 144 0 [(0, .ref x0), (1, .int x1)] [] σ = q_ob (q_getL σ (.ref x0) 6 10) none fun v1 => q_ob (q_put σ (.ref x0) 6 10 1 (.long (v1 + (lN 10)))) none fun h2 => q_ob (q_cI (q_call 143 [.ref x0, .int x1] h2)) none fun p3 => q_ob (q_getR p3.2 (.ref x0) 6 3) none fun v4 => q_ob (q_getL p3.2 (.ref v4) 0 1) none fun v5 => q_ob (q_getR p3.2 (.ref x0) 6 3) none fun v6 => q_ob (q_getI p3.2 (.ref v6) 0 0) none fun v7 => q_ob (q_cI (q_call 49 [.int v7, .int x1] p3.2)) none fun p8 => q_ob (q_cI (q_call 35 [.long v5, .int p8.1] p8.2)) none fun p9 => some (some (.int (p3.1 + p9.1)), p9.2) := (q_run_un 144 [] 22 ..).trans rfl
-- 145 X6_nap
set_option maxRecDepth 100000 in
theorem e_145_0 (x0 : Nat) (x1 : Int32) (σ : qH) : q_run 145 0 [(0, .ref x0), (1, .int x1)] [] σ = q_ob (q_getL σ (.ref x0) 6 10) none fun v1 => q_ob (q_put σ (.ref x0) 6 10 1 (.long (v1 + (lN 100)))) none fun h2 => q_ob (q_cI (q_call 143 [.ref x0, .int x1] h2)) none fun p3 => q_ob (q_getR p3.2 (.ref x0) 6 3) none fun v4 => q_ob (q_getL p3.2 (.ref v4) 0 3) none fun v5 => q_ob (q_cI (q_call 35 [.long v5, .int x1] p3.2)) none fun p6 => some (some (.int (p3.1 - p6.1)), p6.2) := (q_run_un 145 [] 18 ..).trans rfl
-- 146 X6_damask
set_option maxRecDepth 100000 in
theorem e_146_0 (x0 : Nat) (x1 : Int32) (σ : qH) : q_run 146 0 [(0, .ref x0), (1, .int x1)] [] σ = q_ob (q_getL σ (.ref x0) 6 10) none fun v1 => q_ob (q_put σ (.ref x0) 6 10 1 (.long (v1 + (lN 1000)))) none fun h2 => q_ob (q_cI (q_call 144 [.ref x0, .int x1] h2)) none fun p3 => some (some (.int ((nI 2) * p3.1)), p3.2) := (q_run_un 146 [] 14 ..).trans rfl
-- 147 X6_velvet
set_option maxRecDepth 100000 in
theorem e_147_0 (x0 : Nat) (x1 : Int32) (σ : qH) : q_run 147 0 [(0, .ref x0), (1, .int x1)] [] σ = q_ob (q_getL σ (.ref x0) 6 10) none fun v1 => q_ob (q_put σ (.ref x0) 6 10 1 (.long (v1 + (lN 10000)))) none fun h2 => q_ob (q_cI (q_call 145 [.ref x0, .int x1] h2)) none fun p3 => some (some (.int (p3.1 + x1)), p3.2) := (q_run_un 147 [] 14 ..).trans rfl
-- 148 X6_fringe
set_option maxRecDepth 100000 in
theorem e_148_0 (x0 : Nat) (x1 : Int32) (σ : qH) : q_run 148 0 [(0, .ref x0), (1, .int x1)] [] σ = q_ob (q_getL σ (.ref x0) 6 10) none fun v1 => q_ob (q_put σ (.ref x0) 6 10 1 (.long (v1 + (lN 100000)))) none fun h2 => q_ob (q_cI (q_call 143 [.ref x0, .int x1] h2)) none fun p3 => q_ob (q_getR p3.2 (.ref x0) 6 3) none fun v4 => q_ob (q_getI p3.2 (.ref v4) 0 5) none fun v5 => some (some (.int (p3.1 + v5)), p3.2) := (q_run_un 148 [] 16 ..).trans rfl
-- 149 X6_rate
set_option maxRecDepth 100000 in
theorem e_149_0 (x0 : Nat) (x1 : Int32) (x2 : Int32) (σ : qH) : q_run 149 0 [(0, .ref x0), (1, .int x1), (2, .int x2)] [] σ = q_ob (q_getR σ (.ref x0) 6 2) none fun v1 => q_ob (q_cI (q_call 71 [.ref v1, .int x2] σ)) none fun p2 => if p2.1 = nI 0 then some (some (.int (-1000000 : Int32)), p2.2) else if x1 = nI 0 then q_ob (q_cI (q_call 143 [.ref x0, .int x2] p2.2)) none fun p3 => some (some (.int p3.1), p3.2) else if x1 = nI 1 then q_ob (q_cI (q_call 144 [.ref x0, .int x2] p2.2)) none fun p4 => some (some (.int p4.1), p4.2) else if x1 = nI 2 then q_ob (q_cI (q_call 145 [.ref x0, .int x2] p2.2)) none fun p5 => some (some (.int p5.1), p5.2) else if x1 = nI 3 then q_ob (q_cI (q_call 146 [.ref x0, .int x2] p2.2)) none fun p6 => some (some (.int p6.1), p6.2) else if x1 = nI 4 then q_ob (q_cI (q_call 147 [.ref x0, .int x2] p2.2)) none fun p7 => some (some (.int p7.1), p7.2) else if x1 = nI 5 then q_ob (q_cI (q_call 148 [.ref x0, .int x2] p2.2)) none fun p8 => some (some (.int p8.1), p8.2) else some (some (.int (-1000000 : Int32)), p2.2) := (q_run_un 149 [] 37 ..).trans rfl
-- 150 X7_rate
set_option maxRecDepth 100000 in
theorem e_150_0 (x0 : Nat) (x1 : Int32) (x2 : Int32) (σ : qH) : q_run 150 0 [(0, .ref x0), (1, .int x1), (2, .int x2)] [] σ = q_ob (q_cI (q_call 8 [.int x1, .int (nI 0), .int (nI 5)] σ)) none fun p1 => if p1.1 = nI 0 then q_run 150 17 [] [] p1.2 else q_ob (q_cI (q_call 73 [.ref x0, .int x2] p1.2)) none fun p2 => if p2.1 = nI 0 then q_run 150 17 [] [] p2.2 else q_ob (q_getL p2.2 (.ref x0) 7 0) none fun v3 => if x1 = nI 0 then q_run 150 80 [(0, .ref x0), (1, .int x1), (2, .int x2)] [.long (lN 1), .long v3, .ref x0] p2.2 else if x1 = (nI 1) then q_run 150 80 [(0, .ref x0), (1, .int x1), (2, .int x2)] [.long (lN 11), .long v3, .ref x0] p2.2 else if x1 = (nI 2) then q_run 150 80 [(0, .ref x0), (1, .int x1), (2, .int x2)] [.long (lN 101), .long v3, .ref x0] p2.2 else if x1 = (nI 3) then q_run 150 80 [(0, .ref x0), (1, .int x1), (2, .int x2)] [.long (lN 1011), .long v3, .ref x0] p2.2 else if x1 = (nI 4) then q_run 150 80 [(0, .ref x0), (1, .int x1), (2, .int x2)] [.long (lN 10101), .long v3, .ref x0] p2.2 else q_run 150 80 [(0, .ref x0), (1, .int x1), (2, .int x2)] [.long (lN 100001), .long v3, .ref x0] p2.2 := (q_run_un 150 [17, 80] 106 ..).trans rfl
set_option maxRecDepth 100000 in
theorem e_150_17  (σ : qH) : q_run 150 17 [] [] σ = some (some (.int (-1000000 : Int32)), σ) := (q_run_un 150 [17, 80] 106 ..).trans rfl
set_option maxRecDepth 100000 in
theorem e_150_80 (x0 : Nat) (x1 : Int32) (x2 : Int32) (s0 : Int64) (s1 : Int64) (s2 : Nat) (σ : qH) : q_run 150 80 [(0, .ref x0), (1, .int x1), (2, .int x2)] [.long s0, .long s1, .ref s2] σ = q_ob (q_put σ (.ref s2) 7 0 1 (.long (s1 + s0))) none fun h1 => q_ob (q_getR h1 (.ref x0) 7 3) none fun v2 => q_ob (q_aldI h1 (.ref v2) 1 ((nI 25) + x2)) none fun v3 => q_ob (q_getR h1 (.ref x0) 7 5) none fun v4 => q_ob (q_getR h1 (.ref x0) 7 5) none fun v5 => q_ob (q_aldI h1 (.ref v5) 1 x2) none fun v6 => q_ob (q_aldI h1 (.ref v4) 1 ((nI 15) + v6)) none fun v7 => q_ob (q_getR h1 (.ref x0) 7 5) none fun v8 => q_ob (q_aldI h1 (.ref v8) 1 ((nI 10) + x2)) none fun v9 => if x1 = nI 0 then some (some (.int v3), h1) else if x1 = (nI 1) then some (some (.int (v3 + v7)), h1) else if x1 = (nI 2) then some (some (.int (v3 - v9)), h1) else if x1 = (nI 3) then some (some (.int ((nI 2) * (v3 + v7))), h1) else if x1 = (nI 4) then some (some (.int ((v3 - v9) + x2)), h1) else q_ob (q_getR h1 (.ref x0) 7 5) none fun v10 => q_ob (q_aldI h1 (.ref v10) 1 (nI 21)) none fun v11 => some (some (.int (v3 + v11)), h1) := (q_run_un 150 [17, 80] 106 ..).trans rfl
-- 151 X6_keep
set_option maxRecDepth 100000 in
theorem e_151_0 (x0 : Nat) (x1 : Int32) (σ : qH) : q_run 151 0 [(0, .ref x0), (1, .int x1)] [] σ = q_ob (q_getR σ (.ref x0) 6 6) none fun v1 => q_ob (q_cR (q_call 80 [.ref v1, .int x1] σ)) none fun p2 => match p2.1 with | some a3 => q_ob (q_getR p2.2 (.ref x0) 6 3) none fun v4 => q_ob (q_cV (q_call 51 [.ref a3, .ref v4] p2.2)) none fun h5 => q_ob (q_getI h5 (.ref x0) 6 7) none fun v6 => q_ob (q_put h5 (.ref x0) 6 7 0 (.int (v6 ||| ((nI 1) <<< (x1 &&& 31))))) none fun h7 => q_ob (q_getR h7 (.ref x0) 6 3) none fun v8 => q_ob (q_getI h7 (.ref v8) 0 5) none fun v9 => some (some (.int v9), h7) | none => some (some (.int (-1 : Int32)), p2.2) := (q_run_un 151 [] 27 ..).trans rfl
-- 152 X7_keep
set_option maxRecDepth 100000 in
theorem e_152_0 (x0 : Nat) (x1 : Int32) (σ : qH) : q_run 152 0 [(0, .ref x0), (1, .int x1)] [] σ = q_ob (q_cI (q_call 8 [.int x1, .int (nI 0), .int (nI 1)] σ)) none fun p1 => if p1.1 = nI 0 then some (some (.int (-1 : Int32)), p1.2) else q_run 152 13 [(0, .ref x0), (1, .int x1), (2, .int (nI 0))] [] p1.2 := (q_run_un 152 [13] 38 ..).trans rfl
set_option maxRecDepth 100000 in
theorem e_152_13 (x0 : Nat) (x1 : Int32) (x2 : Int32) (σ : qH) : q_run 152 13 [(0, .ref x0), (1, .int x1), (2, .int x2)] [] σ = if (nI 22) ≤ x2 then q_ob (q_getR σ (.ref x0) 7 9) none fun v1 => q_ob (q_astI σ (.ref v1) 3 x1 (vp_nar .boolean (nI 1))) none fun h2 => q_ob (q_getR h2 (.ref x0) 7 5) none fun v3 => q_ob (q_aldI h2 (.ref v3) 1 (nI 21)) none fun v4 => some (some (.int v4), h2) else q_ob (q_getR σ (.ref x0) 7 8) none fun v5 => q_ob (q_getR σ (.ref x0) 7 5) none fun v6 => q_ob (q_aldI σ (.ref v6) 1 x2) none fun v7 => q_ob (q_astI σ (.ref v5) 1 (((nI 22) * x1) + x2) v7) none fun h8 => q_run 152 13 [(0, .ref x0), (1, .int x1), (2, .int (x2 + (nI 1)))] [] h8 := (q_run_un 152 [13] 38 ..).trans rfl
-- 153 X6_again
set_option maxRecDepth 100000 in
theorem e_153_0 (x0 : Nat) (x1 : Int32) (σ : qH) : q_run 153 0 [(0, .ref x0), (1, .int x1)] [] σ = q_ob (q_getR σ (.ref x0) 6 6) none fun v1 => q_ob (q_cR (q_call 80 [.ref v1, .int x1] σ)) none fun p2 => match p2.1 with | some a3 => q_ob (q_getI p2.2 (.ref x0) 6 7) none fun v4 => q_ob (q_cI (q_call 52 [.int v4, .int x1] p2.2)) none fun p5 => if p5.1 = nI 0 then some (some (.int (-2 : Int32)), p5.2) else q_ob (q_getR p5.2 (.ref x0) 6 3) none fun v6 => q_ob (q_cV (q_call 51 [.ref v6, .ref a3] p5.2)) none fun h7 => q_ob (q_getR h7 (.ref x0) 6 5) none fun v8 => q_ob (q_cV (q_call 45 [.ref v8] h7)) none fun h9 => q_ob (q_getR h9 (.ref x0) 6 3) none fun v10 => q_ob (q_getI h9 (.ref v10) 0 5) none fun v11 => some (some (.int v11), h9) | none => some (some (.int (-1 : Int32)), p2.2) := (q_run_un 153 [] 29 ..).trans rfl
-- 154 X7_again
set_option maxRecDepth 100000 in
theorem e_154_0 (x0 : Nat) (x1 : Int32) (σ : qH) : q_run 154 0 [(0, .ref x0), (1, .int x1)] [] σ = q_ob (q_cI (q_call 8 [.int x1, .int (nI 0), .int (nI 1)] σ)) none fun p1 => if p1.1 = nI 0 then some (some (.int (-1 : Int32)), p1.2) else q_ob (q_getR p1.2 (.ref x0) 7 9) none fun v2 => q_ob (q_aldI p1.2 (.ref v2) 3 x1) none fun v3 => if v3 = nI 0 then some (some (.int (-2 : Int32)), p1.2) else q_run 154 25 [(0, .ref x0), (1, .int x1), (2, .int (nI 0))] [] p1.2 := (q_run_un 154 [25] 43 ..).trans rfl
set_option maxRecDepth 100000 in
theorem e_154_25 (x0 : Nat) (x1 : Int32) (x2 : Int32) (σ : qH) : q_run 154 25 [(0, .ref x0), (1, .int x1), (2, .int x2)] [] σ = if (nI 22) ≤ x2 then q_ob (q_put σ (.ref x0) 7 7 0 (.int (nI 0))) none fun h1 => q_ob (q_getR h1 (.ref x0) 7 5) none fun v2 => q_ob (q_aldI h1 (.ref v2) 1 (nI 21)) none fun v3 => some (some (.int v3), h1) else q_ob (q_getR σ (.ref x0) 7 5) none fun v4 => q_ob (q_getR σ (.ref x0) 7 8) none fun v5 => q_ob (q_aldI σ (.ref v5) 1 (((nI 22) * x1) + x2)) none fun v6 => q_ob (q_astI σ (.ref v4) 1 x2 v6) none fun h7 => q_run 154 25 [(0, .ref x0), (1, .int x1), (2, .int (x2 + (nI 1)))] [] h7 := (q_run_un 154 [25] 43 ..).trans rfl
-- 155 X6_count
set_option maxRecDepth 100000 in
theorem e_155_0 (x0 : Nat) (x1 : Int32) (σ : qH) : q_run 155 0 [(0, .ref x0), (1, .int x1)] [] σ = if x1 = nI 0 then q_ob (q_getR σ (.ref x0) 6 2) none fun v1 => q_ob (q_getI σ (.ref v1) 3 0) none fun v2 => some (some (.int v2), σ) else if x1 = nI 1 then q_ob (q_getR σ (.ref x0) 6 2) none fun v3 => q_ob (q_getI σ (.ref v3) 3 1) none fun v4 => some (some (.int v4), σ) else if x1 = nI 2 then q_ob (q_getR σ (.ref x0) 6 2) none fun v5 => q_ob (q_getI σ (.ref v5) 3 2) none fun v6 => some (some (.int v6), σ) else if x1 = nI 3 then q_ob (q_getR σ (.ref x0) 6 8) none fun v7 => q_ob (q_getI σ (.ref v7) 1 3) none fun v8 => some (some (.int v8), σ) else if x1 = nI 4 then q_ob (q_getI σ (.ref x0) 6 1) none fun v9 => some (some (.int v9), σ) else some (some (.int (-1 : Int32)), σ) := (q_run_un 155 [] 25 ..).trans rfl
-- 156 X7_count
set_option maxRecDepth 100000 in
theorem e_156_0 (x0 : Nat) (x1 : Int32) (σ : qH) : q_run 156 0 [(0, .ref x0), (1, .int x1)] [] σ = if x1 = nI 0 then q_ob (q_getR σ (.ref x0) 7 3) none fun v1 => q_ob (q_aldI σ (.ref v1) 1 (nI 0)) none fun v2 => some (some (.int v2), σ) else if x1 = nI 1 then q_ob (q_getR σ (.ref x0) 7 3) none fun v3 => q_ob (q_aldI σ (.ref v3) 1 (nI 1)) none fun v4 => some (some (.int v4), σ) else if x1 = nI 2 then q_ob (q_getR σ (.ref x0) 7 3) none fun v5 => q_ob (q_aldI σ (.ref v5) 1 (nI 2)) none fun v6 => some (some (.int v6), σ) else if x1 = nI 3 then q_ob (q_getI σ (.ref x0) 7 11) none fun v7 => some (some (.int v7), σ) else if x1 = nI 4 then q_ob (q_getI σ (.ref x0) 7 2) none fun v8 => some (some (.int v8), σ) else some (some (.int (-1 : Int32)), σ) := (q_run_un 156 [] 27 ..).trans rfl
-- 157 X6_trace
set_option maxRecDepth 100000 in
theorem e_157_0 (x0 : Nat) (σ : qH) : q_run 157 0 [(0, .ref x0)] [] σ = q_ob (q_getL σ (.ref x0) 6 10) none fun v1 => some (some (.long v1), σ) := (q_run_un 157 [] 5 ..).trans rfl
-- 158 X7_trace
set_option maxRecDepth 100000 in
theorem e_158_0 (x0 : Nat) (σ : qH) : q_run 158 0 [(0, .ref x0)] [] σ = q_ob (q_getL σ (.ref x0) 7 0) none fun v1 => some (some (.long v1), σ) := (q_run_un 158 [] 5 ..).trans rfl
-- 159 L_law
set_option maxRecDepth 100000 in
theorem e_159_0 (x0 : Nat) (σ : qH) : q_run 159 0 [(0, .ref x0)] [] σ = q_ob (q_cV (q_call 5 [.ref σ.2.1] (q_new σ (.inl (6, q_dfl 6)) 11))) none fun h1 => q_ob (q_cV (q_call 17 [.ref h1.2.1] (q_new h1 (.inl (7, q_dfl 7)) 19))) none fun h2 => q_run 159 18 [(0, .ref x0), (1, .ref σ.2.1), (2, .ref h1.2.1), (3, .int (nI 0))] [] h2 := (q_run_un 159 [18, 704] 400 ..).trans rfl
set_option maxRecDepth 100000 in
theorem e_159_18 (x0 : Nat) (x1 : Nat) (x2 : Nat) (x3 : Int32) (σ : qH) : q_run 159 18 [(0, .ref x0), (1, .ref x1), (2, .ref x2), (3, .int x3)] [] σ = q_ob (q_alen σ (.ref x0) 9) none fun v1 => if (v1 - (nI 4)) < x3 then some (some (.int (nI 1)), σ) else q_ob (q_aldI σ (.ref x0) 9 x3) none fun v2 => if (v2 &&& (nI 31)) = nI 0 then q_ob (q_aldI σ (.ref x0) 9 (x3 + (nI 1))) none fun v3 => q_ob (q_cI (q_call 18 [.ref x1, .int v3] σ)) none fun p4 => q_ob (q_aldI p4.2 (.ref x0) 9 (x3 + (nI 1))) none fun v5 => q_ob (q_cI (q_call 19 [.ref x2, .int v5] p4.2)) none fun p6 => if p4.1 = p6.1 then q_run 159 704 [(0, .ref x0), (1, .ref x1), (2, .ref x2), (3, .int x3)] [] p6.2 else some (some (.int (nI 0)), p6.2) else if (v2 &&& (nI 31)) = nI 1 then q_ob (q_cI (q_call 20 [.ref x1] σ)) none fun p7 => q_ob (q_cI (q_call 21 [.ref x2] p7.2)) none fun p8 => if p7.1 = p8.1 then q_run 159 704 [(0, .ref x0), (1, .ref x1), (2, .ref x2), (3, .int x3)] [] p8.2 else some (some (.int (nI 0)), p8.2) else if (v2 &&& (nI 31)) = nI 2 then q_ob (q_cI (q_call 47 [.ref x1] σ)) none fun p9 => q_ob (q_cI (q_call 48 [.ref x2] p9.2)) none fun p10 => if p9.1 = p10.1 then q_run 159 704 [(0, .ref x0), (1, .ref x1), (2, .ref x2), (3, .int x3)] [] p10.2 else some (some (.int (nI 0)), p10.2) else if (v2 &&& (nI 31)) = nI 3 then q_ob (q_aldI σ (.ref x0) 9 (x3 + (nI 1))) none fun v11 => q_ob (q_aldI σ (.ref x0) 9 (x3 + (nI 2))) none fun v12 => q_ob (q_cI (q_call 60 [.ref x1, .int v11, .int v12] σ)) none fun p13 => q_ob (q_aldI p13.2 (.ref x0) 9 (x3 + (nI 1))) none fun v14 => q_ob (q_aldI p13.2 (.ref x0) 9 (x3 + (nI 2))) none fun v15 => q_ob (q_cI (q_call 70 [.ref x2, .int v14, .int v15] p13.2)) none fun p16 => if p13.1 = p16.1 then q_run 159 704 [(0, .ref x0), (1, .ref x1), (2, .ref x2), (3, .int x3)] [] p16.2 else some (some (.int (nI 0)), p16.2) else if (v2 &&& (nI 31)) = nI 4 then q_ob (q_aldI σ (.ref x0) 9 (x3 + (nI 1))) none fun v17 => q_ob (q_aldI σ (.ref x0) 9 (x3 + (nI 2))) none fun v18 => q_ob (q_cI (q_call 72 [.ref x1, .int v17, .int v18] σ)) none fun p19 => q_ob (q_aldI p19.2 (.ref x0) 9 (x3 + (nI 1))) none fun v20 => q_ob (q_aldI p19.2 (.ref x0) 9 (x3 + (nI 2))) none fun v21 => q_ob (q_cI (q_call 74 [.ref x2, .int v20, .int v21] p19.2)) none fun p22 => if p19.1 = p22.1 then q_run 159 704 [(0, .ref x0), (1, .ref x1), (2, .ref x2), (3, .int x3)] [] p22.2 else some (some (.int (nI 0)), p22.2) else if (v2 &&& (nI 31)) = nI 5 then q_ob (q_aldI σ (.ref x0) 9 (x3 + (nI 1))) none fun v23 => q_ob (q_cI (q_call 77 [.ref x1, .int v23] σ)) none fun p24 => q_ob (q_aldI p24.2 (.ref x0) 9 (x3 + (nI 1))) none fun v25 => q_ob (q_cI (q_call 79 [.ref x2, .int v25] p24.2)) none fun p26 => if p24.1 = p26.1 then q_run 159 704 [(0, .ref x0), (1, .ref x1), (2, .ref x2), (3, .int x3)] [] p26.2 else some (some (.int (nI 0)), p26.2) else if (v2 &&& (nI 31)) = nI 6 then q_ob (q_cI (q_call 82 [.ref x1] σ)) none fun p27 => q_ob (q_cI (q_call 84 [.ref x2] p27.2)) none fun p28 => if p27.1 = p28.1 then q_run 159 704 [(0, .ref x0), (1, .ref x1), (2, .ref x2), (3, .int x3)] [] p28.2 else some (some (.int (nI 0)), p28.2) else if (v2 &&& (nI 31)) = nI 7 then q_ob (q_aldI σ (.ref x0) 9 (x3 + (nI 1))) none fun v29 => q_ob (q_aldI σ (.ref x0) 9 (x3 + (nI 2))) none fun v30 => q_ob (q_cI (q_call 85 [.ref x1, .int v29, .int v30] σ)) none fun p31 => q_ob (q_aldI p31.2 (.ref x0) 9 (x3 + (nI 1))) none fun v32 => q_ob (q_aldI p31.2 (.ref x0) 9 (x3 + (nI 2))) none fun v33 => q_ob (q_cI (q_call 87 [.ref x2, .int v32, .int v33] p31.2)) none fun p34 => if p31.1 = p34.1 then q_run 159 704 [(0, .ref x0), (1, .ref x1), (2, .ref x2), (3, .int x3)] [] p34.2 else some (some (.int (nI 0)), p34.2) else if (v2 &&& (nI 31)) = nI 8 then q_ob (q_aldI σ (.ref x0) 9 (x3 + (nI 1))) none fun v35 => q_ob (q_cI (q_call 89 [.ref x1, .int v35] σ)) none fun p36 => q_ob (q_aldI p36.2 (.ref x0) 9 (x3 + (nI 1))) none fun v37 => q_ob (q_cI (q_call 90 [.ref x2, .int v37] p36.2)) none fun p38 => if p36.1 = p38.1 then q_run 159 704 [(0, .ref x0), (1, .ref x1), (2, .ref x2), (3, .int x3)] [] p38.2 else some (some (.int (nI 0)), p38.2) else if (v2 &&& (nI 31)) = nI 9 then q_ob (q_aldI σ (.ref x0) 9 (x3 + (nI 1))) none fun v39 => q_ob (q_cI (q_call 91 [.ref x1, .int v39] σ)) none fun p40 => q_ob (q_aldI p40.2 (.ref x0) 9 (x3 + (nI 1))) none fun v41 => q_ob (q_cI (q_call 92 [.ref x2, .int v41] p40.2)) none fun p42 => if p40.1 = p42.1 then q_run 159 704 [(0, .ref x0), (1, .ref x1), (2, .ref x2), (3, .int x3)] [] p42.2 else some (some (.int (nI 0)), p42.2) else if (v2 &&& (nI 31)) = nI 10 then q_ob (q_cI (q_call 94 [.ref x1] σ)) none fun p43 => q_ob (q_cI (q_call 95 [.ref x2] p43.2)) none fun p44 => if p43.1 = p44.1 then q_run 159 704 [(0, .ref x0), (1, .ref x1), (2, .ref x2), (3, .int x3)] [] p44.2 else some (some (.int (nI 0)), p44.2) else if (v2 &&& (nI 31)) = nI 11 then q_ob (q_cI (q_call 97 [.ref x1] σ)) none fun p45 => q_ob (q_cI (q_call 98 [.ref x2] p45.2)) none fun p46 => if p45.1 = p46.1 then q_run 159 704 [(0, .ref x0), (1, .ref x1), (2, .ref x2), (3, .int x3)] [] p46.2 else some (some (.int (nI 0)), p46.2) else if (v2 &&& (nI 31)) = nI 12 then q_ob (q_aldI σ (.ref x0) 9 (x3 + (nI 1))) none fun v47 => q_ob (q_cI (q_call 104 [.ref x1, .int v47] σ)) none fun p48 => q_ob (q_aldI p48.2 (.ref x0) 9 (x3 + (nI 1))) none fun v49 => q_ob (q_cI (q_call 109 [.ref x2, .int v49] p48.2)) none fun p50 => if p48.1 = p50.1 then q_run 159 704 [(0, .ref x0), (1, .ref x1), (2, .ref x2), (3, .int x3)] [] p50.2 else some (some (.int (nI 0)), p50.2) else if (v2 &&& (nI 31)) = nI 13 then q_ob (q_cI (q_call 111 [.ref x1] σ)) none fun p51 => q_ob (q_cI (q_call 112 [.ref x2] p51.2)) none fun p52 => if p51.1 = p52.1 then q_run 159 704 [(0, .ref x0), (1, .ref x1), (2, .ref x2), (3, .int x3)] [] p52.2 else some (some (.int (nI 0)), p52.2) else if (v2 &&& (nI 31)) = nI 14 then q_ob (q_aldI σ (.ref x0) 9 (x3 + (nI 1))) none fun v53 => q_ob (q_cI (q_call 121 [.ref x1, .int v53] σ)) none fun p54 => q_ob (q_aldI p54.2 (.ref x0) 9 (x3 + (nI 1))) none fun v55 => q_ob (q_cI (q_call 122 [.ref x2, .int v55] p54.2)) none fun p56 => if p54.1 = p56.1 then q_run 159 704 [(0, .ref x0), (1, .ref x1), (2, .ref x2), (3, .int x3)] [] p56.2 else some (some (.int (nI 0)), p56.2) else if (v2 &&& (nI 31)) = nI 15 then q_ob (q_aldI σ (.ref x0) 9 (x3 + (nI 1))) none fun v57 => q_ob (q_aldI σ (.ref x0) 9 (x3 + (nI 2))) none fun v58 => q_ob (q_aldI σ (.ref x0) 9 (x3 + (nI 3))) none fun v59 => q_ob (q_cI (q_call 125 [.ref x1, .int v57, .int v58, .int v59] σ)) none fun p60 => q_ob (q_aldI p60.2 (.ref x0) 9 (x3 + (nI 1))) none fun v61 => q_ob (q_aldI p60.2 (.ref x0) 9 (x3 + (nI 2))) none fun v62 => q_ob (q_aldI p60.2 (.ref x0) 9 (x3 + (nI 3))) none fun v63 => q_ob (q_cI (q_call 126 [.ref x2, .int v61, .int v62, .int v63] p60.2)) none fun p64 => if p60.1 = p64.1 then q_run 159 704 [(0, .ref x0), (1, .ref x1), (2, .ref x2), (3, .int x3)] [] p64.2 else some (some (.int (nI 0)), p64.2) else if (v2 &&& (nI 31)) = nI 16 then q_ob (q_aldI σ (.ref x0) 9 (x3 + (nI 1))) none fun v65 => q_ob (q_aldI σ (.ref x0) 9 (x3 + (nI 2))) none fun v66 => q_ob (q_cI (q_call 128 [.ref x1, .int v65, .int v66] σ)) none fun p67 => q_ob (q_aldI p67.2 (.ref x0) 9 (x3 + (nI 1))) none fun v68 => q_ob (q_aldI p67.2 (.ref x0) 9 (x3 + (nI 2))) none fun v69 => q_ob (q_cI (q_call 129 [.ref x2, .int v68, .int v69] p67.2)) none fun p70 => if p67.1 = p70.1 then q_run 159 704 [(0, .ref x0), (1, .ref x1), (2, .ref x2), (3, .int x3)] [] p70.2 else some (some (.int (nI 0)), p70.2) else if (v2 &&& (nI 31)) = nI 17 then q_ob (q_cI (q_call 130 [.ref x1] σ)) none fun p71 => q_ob (q_cI (q_call 131 [.ref x2] p71.2)) none fun p72 => if p71.1 = p72.1 then q_run 159 704 [(0, .ref x0), (1, .ref x1), (2, .ref x2), (3, .int x3)] [] p72.2 else some (some (.int (nI 0)), p72.2) else if (v2 &&& (nI 31)) = nI 18 then q_ob (q_aldI σ (.ref x0) 9 (x3 + (nI 1))) none fun v73 => q_ob (q_cI (q_call 136 [.ref x1, .int v73] σ)) none fun p74 => q_ob (q_aldI p74.2 (.ref x0) 9 (x3 + (nI 1))) none fun v75 => q_ob (q_cI (q_call 139 [.ref x2, .int v75] p74.2)) none fun p76 => if p74.1 = p76.1 then q_run 159 704 [(0, .ref x0), (1, .ref x1), (2, .ref x2), (3, .int x3)] [] p76.2 else some (some (.int (nI 0)), p76.2) else if (v2 &&& (nI 31)) = nI 19 then q_ob (q_cI (q_call 141 [.ref x1] σ)) none fun p77 => q_ob (q_cI (q_call 142 [.ref x2] p77.2)) none fun p78 => if p77.1 = p78.1 then q_run 159 704 [(0, .ref x0), (1, .ref x1), (2, .ref x2), (3, .int x3)] [] p78.2 else some (some (.int (nI 0)), p78.2) else if (v2 &&& (nI 31)) = nI 20 then q_ob (q_aldI σ (.ref x0) 9 (x3 + (nI 1))) none fun v79 => q_ob (q_aldI σ (.ref x0) 9 (x3 + (nI 2))) none fun v80 => q_ob (q_cI (q_call 149 [.ref x1, .int v79, .int v80] σ)) none fun p81 => q_ob (q_aldI p81.2 (.ref x0) 9 (x3 + (nI 1))) none fun v82 => q_ob (q_aldI p81.2 (.ref x0) 9 (x3 + (nI 2))) none fun v83 => q_ob (q_cI (q_call 150 [.ref x2, .int v82, .int v83] p81.2)) none fun p84 => if p81.1 = p84.1 then q_run 159 704 [(0, .ref x0), (1, .ref x1), (2, .ref x2), (3, .int x3)] [] p84.2 else some (some (.int (nI 0)), p84.2) else if (v2 &&& (nI 31)) = nI 21 then q_ob (q_aldI σ (.ref x0) 9 (x3 + (nI 1))) none fun v85 => q_ob (q_cI (q_call 151 [.ref x1, .int v85] σ)) none fun p86 => q_ob (q_aldI p86.2 (.ref x0) 9 (x3 + (nI 1))) none fun v87 => q_ob (q_cI (q_call 152 [.ref x2, .int v87] p86.2)) none fun p88 => if p86.1 = p88.1 then q_run 159 704 [(0, .ref x0), (1, .ref x1), (2, .ref x2), (3, .int x3)] [] p88.2 else some (some (.int (nI 0)), p88.2) else if (v2 &&& (nI 31)) = nI 22 then q_ob (q_aldI σ (.ref x0) 9 (x3 + (nI 1))) none fun v89 => q_ob (q_cI (q_call 153 [.ref x1, .int v89] σ)) none fun p90 => q_ob (q_aldI p90.2 (.ref x0) 9 (x3 + (nI 1))) none fun v91 => q_ob (q_cI (q_call 154 [.ref x2, .int v91] p90.2)) none fun p92 => if p90.1 = p92.1 then q_run 159 704 [(0, .ref x0), (1, .ref x1), (2, .ref x2), (3, .int x3)] [] p92.2 else some (some (.int (nI 0)), p92.2) else if (v2 &&& (nI 31)) = nI 23 then q_ob (q_aldI σ (.ref x0) 9 (x3 + (nI 1))) none fun v93 => q_ob (q_cI (q_call 155 [.ref x1, .int v93] σ)) none fun p94 => q_ob (q_aldI p94.2 (.ref x0) 9 (x3 + (nI 1))) none fun v95 => q_ob (q_cI (q_call 156 [.ref x2, .int v95] p94.2)) none fun p96 => if p94.1 = p96.1 then q_run 159 704 [(0, .ref x0), (1, .ref x1), (2, .ref x2), (3, .int x3)] [] p96.2 else some (some (.int (nI 0)), p96.2) else if (v2 &&& (nI 31)) = nI 24 then q_ob (q_cL (q_call 157 [.ref x1] σ)) none fun p97 => q_ob (q_cL (q_call 158 [.ref x2] p97.2)) none fun p98 => if (lg_cmp p97.1 p98.1) = nI 0 then q_run 159 704 [(0, .ref x0), (1, .ref x1), (2, .ref x2), (3, .int x3)] [] p98.2 else some (some (.int (nI 0)), p98.2) else q_run 159 704 [(0, .ref x0), (1, .ref x1), (2, .ref x2), (3, .int x3)] [] σ := (q_run_un 159 [18, 704] 400 ..).trans rfl
set_option maxRecDepth 100000 in
theorem e_159_704 (x0 : Nat) (x1 : Nat) (x2 : Nat) (x3 : Int32) (σ : qH) : q_run 159 704 [(0, .ref x0), (1, .ref x1), (2, .ref x2), (3, .int x3)] [] σ = q_run 159 18 [(0, .ref x0), (1, .ref x1), (2, .ref x2), (3, .int (x3 + (nI 4)))] [] σ := (q_run_un 159 [18, 704] 400 ..).trans rfl
end
section
/-! ===== every method of the tables, and the law's entry ===== -/
theorem q_Mets (l : Launch) (D : va_G) (cy : Nat → ClassId) (lo : Nat) : ∀ k, k < 159 → ∀ As σ v σ1, q_call k As σ = some (v, σ1) → lo ≤ σ.2.1 → q_okm (q_ms k) = true ∧ q_Mt l D cy lo k As σ v σ1 ∧ q_le σ σ1 := by
  intro k
  induction k using Nat.strongRecOn with
  | _ k ih =>
    intro hk As σ v σ1 h hlo
    obtain ⟨h1, h2⟩ := q_all_ok k hk
    exact ⟨h1, q_Met_of l h1 h2 (fun j hj As σ v σ1 => ih j hj (by omega) As σ v σ1) h hlo, q_le_all k _ _ _ _ h⟩
theorem q_instw : (List.range 8).all (fun ci => q_gd ([1083, 1136, 1116, 1021, 2000, 1168, 1013, 3177].getD ci 0) (.instantiable (q_cls ci).1 (q_cls ci).2.2)) = true := by decide +kernel
theorem q_arrw : q_gd 1081 (.arrayClass .char) = true ∧ q_gd 1191 (.arrayClass .int) = true ∧ q_gd 1192 (.arrayClass .long) = true ∧ q_gd 4041 (.arrayClass .boolean) = true := by decide +kernel
theorem q_nestw : q_nest = [1022, 1084, 1123, 1137, 1169, 2006, 2095, 2104, 2111, 2144, 2163, 2164, 2167, 2173, 2178, 2183, 2187, 2216, 3037, 3038, 3039, 3040, 3088, 3105, 3109].filterMap q_wd := by decide +kernel
theorem q_aow : q_wd 1122 = some (.arrayOver (.object RX0)) := by decide +kernel
theorem q_nest_tbl {w : Cond} (h : w ∈ q_nest) : w ∈ lw_tbl := by
  rw [q_nestw] at h
  obtain ⟨i, -, hi⟩ := List.mem_filterMap.mp h
  exact q_wd_in hi
/-- the pure heap at the law's entry: the script alone -/
def q_init (z b L : Nat) (xs : Nat → Int32) : qH := (fun a => if a = b then some (.inr (9, (L, .inl xs))) else none, z, 0)
theorem q_arr0 {s : State} {args : Array Value} {t : FieldType} (ht : (Cond.arrayClass t).before args s = true) : ∃ c, ArrOfT s c t ∧ s.vm.findClass ("[" ++ t.toString) = some c := by
  obtain ⟨c, k, comp, h1, h2, h3⟩ := Cond.arrayClass_spec ht
  exact ⟨c, fun n z => ⟨fun k h => (by cases h), k, h2, comp, h3⟩, h1⟩
theorem q_start {s : State} {b : Nat} (hts : ∀ w ∈ lw_tbl, w.before #[Value.ref b] s = true) : ∃ (D : va_G) (cy : Nat → ClassId), q_KK D cy s := by
  have hws : ∀ w ∈ q_WS, w.before #[Value.ref b] s = true := fun w hw => hts w (List.mem_filter.mp hw).1
  have hcl : ∀ ci, ∃ (cC : ClassId) (iS : Nat → Nat), ci < 8 → u_Kn s (q_cls ci).1 (q_cls ci).2.1 (q_cls ci).2.2 cC iS := by
    intro ci
    by_cases h : ci < 8
    · obtain ⟨cC, iS, hk⟩ := u_known hws (q_lays ci h) (hws _ (q_gd_in (List.all_eq_true.mp q_instw ci (List.mem_range.mpr h))))
      exact ⟨cC, iS, fun _ => hk⟩
    · exact ⟨0, fun _ => 0, fun g => absurd g h⟩
  obtain ⟨a1, a2, a3, a4⟩ := q_arrw
  obtain ⟨c0, b0, d0⟩ := q_arr0 (hws _ (q_gd_in a1))
  obtain ⟨c1, b1, d1⟩ := q_arr0 (hws _ (q_gd_in a2))
  obtain ⟨c2, b2, d2⟩ := q_arr0 (hws _ (q_gd_in a3))
  obtain ⟨c3, b3, d3⟩ := q_arr0 (hws _ (q_gd_in a4))
  have hov := hts _ (q_wd_in q_aow)
  obtain ⟨comp, c4, k4, f1, -, f2, f3, f4⟩ := Cond.arrayOver_spec hov
  refine ⟨(fun ci => Classical.choose (hcl ci), fun ci => Classical.choose (Classical.choose_spec (hcl ci))), fun k => match k with
    | 0 => c0
    | 1 => c1
    | 2 => c2
    | 3 => c3
    | _ => c4, ⟨fun ci q hq => ?_, fun k q hk => ?_⟩, fun w hw => ?_, va_AO.of hov⟩
  · have hlt : ci < 8 := (List.getElem?_eq_some_iff.mp hq).1
    rw [q_cls_at ci hlt] at hq
    cases hq
    exact Classical.choose_spec (Classical.choose_spec (hcl ci)) hlt
  · have hlt : k < 5 := (List.getElem?_eq_some_iff.mp hk).1
    match k, hlt with
    | 0, _ => cases hk; exact ⟨b0, d0⟩
    | 1, _ => cases hk; exact ⟨b1, d1⟩
    | 2, _ => cases hk; exact ⟨b2, d2⟩
    | 3, _ => cases hk; exact ⟨b3, d3⟩
    | 4, _ => cases hk; exact ⟨fun N z => ⟨(fun k h => by cases h), k4, f2, comp, f3⟩, k4, comp, f2, f3, f1, f4⟩
  · obtain ⟨a, i, x, h, rfl⟩ := q_nest_kind hw
    exact va_Nw.of rfl (hts _ (q_nest_tbl hw))
/-! THE CLAIM OUT OF ONE WALK OF THE LAW'S BODY. Your part is whole_start (and what it stands on); all else here is the same for every law, but numbers. -/
def R_law : String := "PlushFlocksLaw"
def lw_P (b : Addr) (xs : List Int32) (args : Array Value) (s : State) : Prop := args = #[.ref b] ∧ s.IntsAt b xs ∧ xs.length ≤ 256 ∧ (Jvm.Cond.and given_1 narrow_1).before args s = true
def lw_Q (_ : Array Value) (s : State) (o : Outcome) (t : State) : Prop := o = .returned (some (.int 1)) ∧ Framed s o t [] 600000 7302250
def lw_Z (below : List Frame) (a : Array Value) (s : State) : State → Prop := fun t => ∃ o, t.status = .running ∧ Ended t below o ∧ lw_Q a s o t
/-- the law's own end, with 1 on the stack, nothing written that was there before, its room as the claim has it -/
theorem lw_ret {p : Program} {l : Launch} {e : Env} {s : State} {m : MethodId} {below : List Frame} {meth : Method} {c : Code} {b : Nat} (hx : p.tables.exec = Jvm.exec) (hb : c.code = code) (hr : meth.sig.returnType = ret) (hlocks : meth.locks = false) {pc : Nat} {H : Heap} {ls : Array Slot} (hdg : decode code pc = .ok (.ireturn, 1)) : W p l e room_1 s m #[Value.ref b] below meth c H [] 600000 7302250 (lw_Z below #[Value.ref b] s) (F0 m pc ls [.int 1]) := by
  intro T hT X
  obtain ⟨fs, hret, hrun, hended, hW, hframe⟩ := X.leave (v := some (.int 1)) (hlocks := hlocks) (fun h => by rw [hr] at h; cases h)
  have hmeth' : T.vm.method? m = some meth := X.method'
  refine ⟨T.setFrames fs, ?_, .returned (some (.int 1)), hrun, hended, rfl, ⟨_, rfl⟩, hW, hframe⟩
  jvm_step X.here [X.here.top, hx, hb, hdg, hmeth', hr, ret, narrow_b1]
  (try refine ⟨rfl, ?_⟩); (try refine ⟨rfl, ?_⟩)
  first | (intro acts; rw [hret _ acts rfl rfl rfl]) | rw [hret _ _ rfl rfl rfl]
  exact Steps.refl _
/-- what holds at the law's entry: the machine, the code, the tables' words (any of lw_tbl by 'hts w (by decide +kernel)'), the script of L ints xs at the cell b, what the Statement gives of the start (any of its parts by flat_of_before) -/
def lw_At (p : Program) (s : State) (m : MethodId) (meth : Method) (c : Code) (b L : Nat) (xs : Nat → Int32) : Prop :=
  p.tables.exec = Jvm.exec ∧ c.code = code ∧ meth.sig.returnType = ret ∧ c.maxLocals = 4 ∧ s.vm.findClass R_law = some m.cls ∧ (∀ w ∈ lw_tbl, w.before #[Value.ref b] s = true) ∧ va_X b L xs s s.heap ∧ b < s.heap.size ∧ meth.locks = false ∧ (Jvm.Cond.and given_1 narrow_1).before #[Value.ref b] s = true
/-- where the law ends with 1 -/
theorem q_lawend {p : Program} {l : Launch} {e : Env} {s : State} {m : MethodId} {below : List Frame} {meth : Method} {c : Code} {b : Nat} {D : va_G} {cy : Nat → ClassId} (hx : p.tables.exec = Jvm.exec) (hb : c.code = code) (hr : meth.sig.returnType = ret) (hlocks : meth.locks = false) {σ1 : qH} (hz : σ1.2.1 ≤ s.heap.size + 600000 ∧ σ1.2.2 ≤ 7302250)
    {pc : Nat} {L0 : qL} {st : List Value} {σ : qH} (hst : q_step 159 qm_159.2.2.2 q_call pc L0 st σ = some (.inl (some (.int 1), σ1))) :
    q_Wk p l e room_1 s m #[Value.ref b] below meth c (lw_Z below #[Value.ref b] s) 4 D cy s.heap.size s.heap.size 0 pc L0 st σ := by
  have hok := q_oc_159
  unfold q_step q_F at hst
  split at hst
  · cases hst
  next en hen =>
  have hoke := List.all_eq_true.mp hok _ (q_lookup_mem hen)
  obtain ⟨ins, nx, kp, ax, cv, sw⟩ := en
  obtain ⟨hd0, hx0⟩ := q_and hoke
  have hdec : decode code pc = .ok (ins, nx - pc) := of_decide_eq_true hd0
  dsimp only at hst hx0
  intro H locs ls cells slots hl0 hw hS hcl hsl
  generalize q_keep kp L0 = L at hst
  have hinv : ∀ {nx : Nat} {ax : List Nat} {L : qL} {st : List Value}, q_inv 159 q_call none q_K nx ax L st σ = some (.inl (some (.int 1), σ1)) → False := by
    intro nx ax L st h
    obtain ⟨-, -, -, v, σ1, -, h⟩ := q_inv_some h
    cases h
  cases ins
  case ireturn =>
    dsimp only [q_okx] at hx0
    obtain ⟨h1, h2⟩ := q_and hx0
    obtain ⟨hdg, rfl⟩ := q_dec hdec h1
    dsimp only [q_G] at hst
    split at hst
    · obtain ⟨hov, hst⟩ := q_bt_some hst
      cases hst
      refine va_forget (fun q hq => hS.2.2 q hq) ?_
      refine W.widen (k := 600000) (n := 7302250) (by omega) (by omega) ?_
      exact lw_ret hx hb hr hlocks hdg
    · cases hst
  case lreturn => dsimp only [q_G] at hst; split at hst <;> cases hst
  case areturn => dsimp only [q_G] at hst; split at hst <;> cases hst
  case return_ => dsimp only [q_G] at hst; split at hst <;> cases hst
  all_goals exfalso; dsimp only [q_G] at hst
  all_goals first
    | (cases hst; done)
    | exact hinv hst
    | (obtain ⟨_, _, h2⟩ := q_ob_some hst; cases h2; done)
    | ((repeat' split at hst) <;> first | (cases hst; done) | (obtain ⟨_, _, h2⟩ := q_ob_some hst; cases h2; done) | (rw [q_sw_eq] at hst; cases hst; done))
    | (rcases q_bt_or hst with h | h <;> first | (cases h; done) | exact hinv h | (split at h <;> first | (cases h; done) | (obtain ⟨_, h2⟩ := q_bt_some h; cases h2; done)) | (rcases q_bt_or h with h | h <;> first | (cases h; done) | exact hinv h | (split at h <;> first | (cases h; done) | (obtain ⟨_, h2⟩ := q_bt_some h; cases h2; done))))
theorem q_whole_of (hp : ∀ (z b L : Nat) (xs : Nat → Int32), b < z → L ≤ 256 → ∃ σ1, q_run 159 0 [(0, .ref b)] [] (q_init z b L xs) = some (some (.int 1), σ1) ∧ σ1.2.1 ≤ z + 600000 ∧ σ1.2.2 ≤ 7302250)
    {p : Program} {e : Env} {s : State} {m : MethodId} {below : List Frame} {meth : Method} {c : Code} (l : Launch) {b L : Nat} {xs : Nat → Int32} (hL : L ≤ 256) (C0 : lw_At p s m meth c b L xs) : W p l e room_1 s m #[Value.ref b] below meth c s.heap [] 0 0 (lw_Z below #[Value.ref b] s) (entryFrame m ([Value.ref b] : List Value).toArray 4) := by
  obtain ⟨hx, hb, hr, hml, hown, hts, hX, hbl, hlocks, hgv⟩ := C0
  obtain ⟨D, cy, hKK⟩ := q_start hts
  obtain ⟨σ1, hrun, hz1, hz2⟩ := hp s.heap.size b L xs hbl hL
  obtain ⟨n, hit⟩ := (q_rn0_iff (some (.int 1), σ1)).mp hrun
  have C1 : q_Cx p room_1 s m #[Value.ref b] meth c 159 qm_159 D cy s.heap.size := ⟨hx, hb, hml, hown, fun w hw => hts w (List.mem_filter.mp hw).1, hKK, Nat.le_refl _, fun e => absurd e (by decide), Nat.le_of_ble_eq_true rfl, Nat.le_of_ble_eq_true rfl⟩
  rw [lg_entry_eq]
  have hl := lv_entry ([.ref b]) (n := 4) (Nat.le_of_ble_eq_true rfl)
  have hw : q_W D cy s.heap.size (q_init s.heap.size b L xs) s s.heap := by
    refine ⟨rfl, fun a e ha => ?_⟩
    unfold q_init at ha
    dsimp only at ha
    split at ha
    · next hab => cases ha; subst hab; exact Or.inl ⟨rfl, xs, rfl, hX⟩
    · cases ha
  exact q_sound_W (l := l) (z0 := s.heap.size) (w0 := 0) (r0 := (some (.int 1), σ1)) C1 q_oc_159 (fun j hj => q_Mets l D cy s.heap.size j hj) (fun pc L st σ hst => q_lawend hx hb hr hlocks ⟨hz1, hz2⟩ hst) ⟨hz1, by show σ1.2.2 ≤ 0 + 7302250; omega⟩ n _ _ _ _ hit s.heap [] _ 0 0 hl hw va_S.rf (by show 0 + s.heap.size = s.heap.size; omega) rfl
end
section
/-! began as kit/laws/BITS.to-paste: the families bt, nI, lN to 2^64, masks -/
/-! ===== Int32 by its bits: bt x i ===== -/
def bt (x : Int32) (i : Nat) : Bool := x.toBitVec.getLsbD i
theorem b_ext {x y : Int32} (h : ∀ i, i < 32 → bt x i = bt y i) : x = y := Int32.toBitVec_inj.mp (BitVec.eq_of_getLsbD_eq (fun i hi => h i hi))
theorem b_or (x y : Int32) (i : Nat) : bt (x ||| y) i = (bt x i || bt y i) := by unfold bt; rw [Int32.toBitVec_or, BitVec.getLsbD_or]
theorem b_and (x y : Int32) (i : Nat) : bt (x &&& y) i = (bt x i && bt y i) := by unfold bt; rw [Int32.toBitVec_and, BitVec.getLsbD_and]
theorem b_xor (x y : Int32) (i : Nat) : bt (x ^^^ y) i = (bt x i ^^ bt y i) := by unfold bt; rw [Int32.toBitVec_xor, BitVec.getLsbD_xor]
theorem b_big {x : Int32} {i : Nat} (h : 32 ≤ i) : bt x i = false := BitVec.getLsbD_of_ge _ _ h
theorem b_255 (i : Nat) : bt 255 i = decide (i < 8) := by
  rcases Nat.lt_or_ge i 32 with h | h
  · exact (by decide +kernel : ∀ i, i < 32 → bt 255 i = decide (i < 8)) i h
  · rw [b_big h, decide_eq_false (by omega)]
theorem b_65535 (i : Nat) : bt 65535 i = decide (i < 16) := by
  rcases Nat.lt_or_ge i 32 with h | h
  · exact (by decide +kernel : ∀ i, i < 32 → bt 65535 i = decide (i < 16)) i h
  · rw [b_big h, decide_eq_false (by omega)]
theorem b_m1 : ∀ i, i < 32 → bt (-1) i = true := by decide +kernel
theorem b_0 (i : Nat) : bt 0 i = false := BitVec.getLsbD_zero
theorem s_l : ∀ n, n < 32 → ((nI n &&& 31).toBitVec.smod 32).toNat = n := by decide +kernel
theorem s_u : ∀ n, n < 32 → (((nI n).toUInt32 &&& Int32.toUInt32 31).toBitVec % 32).toNat = n := by decide +kernel
theorem b_shl (n : Nat) (hn : n < 32) (x : Int32) {i : Nat} (hi : i < 32) : bt (x <<< (nI n &&& 31)) i = (decide (n ≤ i) && bt x (i - n)) := by
  unfold bt
  rw [Int32.toBitVec_shiftLeft]
  show (x.toBitVec <<< ((nI n &&& 31).toBitVec.smod 32).toNat).getLsbD i = _
  rw [s_l n hn, BitVec.getLsbD_shiftLeft]
  rcases Nat.lt_or_ge i n with h | h
  · simp [h, Nat.not_le.mpr h]
  · simp [hi, h, Nat.not_lt.mpr h]
theorem b_ushr (n : Nat) (hn : n < 32) (x : Int32) (i : Nat) : bt ((x.toUInt32 >>> ((nI n).toUInt32 &&& Int32.toUInt32 31)).toInt32) i = bt x (n + i) := by
  show (x.toUInt32 >>> ((nI n).toUInt32 &&& Int32.toUInt32 31)).toBitVec.getLsbD i = x.toUInt32.toBitVec.getLsbD (n + i)
  rw [UInt32.toBitVec_shiftRight]
  show (x.toUInt32.toBitVec >>> (((nI n).toUInt32 &&& Int32.toUInt32 31).toBitVec % 32).toNat).getLsbD i = _
  rw [s_u n hn, BitVec.getLsbD_ushiftRight]
theorem b_sshr (n : Nat) (hn : n < 32) (x : Int32) {i : Nat} (hi : i < 32) : bt (x >>> (nI n &&& 31)) i = if n + i < 32 then bt x (n + i) else bt x 31 := by
  unfold bt
  rw [Int32.toBitVec_shiftRight]
  show (x.toBitVec.sshiftRight ((nI n &&& 31).toBitVec.smod 32).toNat).getLsbD i = _
  rw [s_l n hn, BitVec.getLsbD_sshiftRight, BitVec.msb_eq_getLsbD_last]
  simp [hi]
theorem b_shl8 (x : Int32) {i : Nat} (hi : i < 32) : bt (x <<< ((8 : Int32) &&& 31)) i = (decide (8 ≤ i) && bt x (i - 8)) := b_shl 8 (by omega) x hi
theorem b_shl16 (x : Int32) {i : Nat} (hi : i < 32) : bt (x <<< ((16 : Int32) &&& 31)) i = (decide (16 ≤ i) && bt x (i - 16)) := b_shl 16 (by omega) x hi
theorem b_shl24 (x : Int32) {i : Nat} (hi : i < 32) : bt (x <<< ((24 : Int32) &&& 31)) i = (decide (24 ≤ i) && bt x (i - 24)) := b_shl 24 (by omega) x hi
theorem b_sshr8 (x : Int32) {i : Nat} (hi : i < 32) : bt (x >>> ((8 : Int32) &&& 31)) i = if 8 + i < 32 then bt x (8 + i) else bt x 31 := b_sshr 8 (by omega) x hi
/-! ===== nI under and, xor, >>>, one bit, 65535 ===== -/
theorem nx_and (a b : Nat) : nI a &&& nI b = nI (a &&& b) := by
  apply Int32.toBitVec_inj.1
  show BitVec.ofNat 32 a &&& BitVec.ofNat 32 b = BitVec.ofNat 32 (a &&& b)
  apply BitVec.eq_of_getLsbD_eq
  intro i hi
  simp [hi]
theorem nx_xor (a b : Nat) : nI a ^^^ nI b = nI (a ^^^ b) := by
  apply Int32.toBitVec_inj.1
  show BitVec.ofNat 32 a ^^^ BitVec.ofNat 32 b = BitVec.ofNat 32 (a ^^^ b)
  apply BitVec.eq_of_getLsbD_eq
  intro i hi
  simp [hi]
theorem nx_cnt : ∀ j : Fin 32, (UInt32.ofNat j.val &&& Int32.toUInt32 31).toNat % 32 = j.val := by decide +kernel
theorem nx_ush {k j : Nat} (hk : k < 65536) (hj : j < 32) : ((nI k).toUInt32 >>> ((nI j).toUInt32 &&& Int32.toUInt32 31)).toInt32 = nI (k >>> j) := by
  have hs : k >>> j ≤ k := by
    rw [Nat.shiftRight_eq_div_pow]
    exact Nat.div_le_self _ _
  have e2 : UInt32.ofNat k >>> (UInt32.ofNat j &&& Int32.toUInt32 31) = UInt32.ofNat (k >>> j) := by
    apply UInt32.toNat_inj.1
    have h1 : (UInt32.ofNat k).toNat = k := Nat.mod_eq_of_lt (by omega)
    have h2 : (UInt32.ofNat (k >>> j)).toNat = k >>> j := Nat.mod_eq_of_lt (by omega)
    rw [UInt32.toNat_shiftRight, nx_cnt ⟨j, hj⟩, h1, h2]
  show (UInt32.ofNat k >>> (UInt32.ofNat j &&& Int32.toUInt32 31)).toInt32 = _
  rw [e2]
  rfl
theorem nx_bit {k j : Nat} (hk : k < 65536) (hj : j < 16) : (((nI k).toUInt32 >>> ((nI j).toUInt32 &&& Int32.toUInt32 31)).toInt32 &&& 1) = 0 ↔ k.testBit j = false := by
  rw [nx_ush hk (by omega)]
  show nI (k >>> j) &&& nI 1 = 0 ↔ _
  rw [nx_and, Nat.and_one_is_mod, ← nI_0, nI_eq (by omega) (by omega), Nat.testBit_eq_decide_div_mod_eq, Nat.shiftRight_eq_div_pow, decide_eq_false_iff_not]
  generalize k / 2 ^ j = z
  omega
theorem nx_mod (k : Nat) : nI k &&& 65535 = nI (k % 65536) := by
  show nI k &&& nI 65535 = _
  rw [nx_and, show (65535 : Nat) = 2 ^ 16 - 1 from rfl, Nat.and_two_pow_sub_one_eq_mod]
theorem nx_m16 {k : Nat} (h : k < 65536) : nI k &&& 65535 = nI k := by rw [nx_mod, Nat.mod_eq_of_lt h]
theorem nx_mask (x : Int32) : ∃ k, k < 65536 ∧ x &&& 65535 = nI k := by
  have e : x = nI x.toBitVec.toNat := by
    apply Int32.toBitVec_inj.1
    show x.toBitVec = BitVec.ofNat 32 x.toBitVec.toNat
    simp
  refine ⟨x.toBitVec.toNat % 65536, Nat.mod_lt _ (by omega), ?_⟩
  rw [← nx_mod, ← e]
/-! ===== lN n to 2^64: shifts, and, or, masks, one bit ===== -/
theorem wb_tb (n : Nat) : (lN n).toBitVec = BitVec.ofNat 64 n := rfl
theorem wb_inj {a b : Int64} (h : a.toBitVec = b.toBitVec) : a = b := Int64.toBitVec_inj.mp h
theorem wb_tn {n : Nat} (h : n < 2 ^ 64) : (lN n).toBitVec.toNat = n := by rw [wb_tb, BitVec.toNat_ofNat, Nat.mod_eq_of_lt h]
theorem wb_of (x : Int64) : ∃ n, n < 2 ^ 64 ∧ x = lN n := ⟨x.toBitVec.toNat, x.toBitVec.isLt, wb_inj (by rw [wb_tb]; simp)⟩
theorem wb_of32 (x : Int32) : ∃ n, n < 2 ^ 32 ∧ x = nI n := ⟨x.toBitVec.toNat, x.toBitVec.isLt, Int32.toBitVec_inj.mp (by show _ = BitVec.ofNat 32 _; simp)⟩
theorem wb_c : ∀ k, k < 64 → ((nI k).toInt64 &&& 63) = lN k := by decide +kernel
theorem wb_cu : ∀ k, k < 64 → ((nI k).toInt64.toUInt64 &&& Int64.toUInt64 63) = UInt64.ofNat k := by decide +kernel
theorem wb_sm : ∀ k, k < 64 → (BitVec.ofNat 64 k).smod 64 = BitVec.ofNat 64 k := by decide +kernel
theorem wb_pw {a b : Nat} (h : a ≤ b) : 2 ^ b = 2 ^ a * 2 ^ (b - a) := by rw [← Nat.pow_add]; congr 1; omega
theorem wb_lt2 {a b : Nat} (h : a < b) : 2 ^ a < 2 ^ b := Nat.pow_lt_pow_right (by decide) h
theorem wb_mod (n : Nat) : lN n = lN (n % 2 ^ 64) := wb_inj (by rw [wb_tb, wb_tb]; apply BitVec.eq_of_toNat_eq; rw [BitVec.toNat_ofNat, BitVec.toNat_ofNat, Nat.mod_mod])
theorem wb_shr {n k : Nat} (hn : n < 2 ^ 64) (hk : k < 64) : ((lN n).toUInt64 >>> ((nI k).toInt64.toUInt64 &&& Int64.toUInt64 63)).toInt64 = lN (n / 2 ^ k) := by
  rw [wb_cu k hk]
  apply wb_inj
  apply BitVec.eq_of_toNat_eq
  show ((lN n).toUInt64 >>> UInt64.ofNat k).toNat = (BitVec.ofNat 64 _).toNat
  have h1 : (UInt64.ofNat k).toNat = k := by
    show (BitVec.ofNat 64 k).toNat = k
    rw [BitVec.toNat_ofNat, Nat.mod_eq_of_lt (by omega)]
  have h2 : (lN n).toUInt64.toNat = n := wb_tn hn
  rw [UInt64.toNat_shiftRight, h1, h2, Nat.mod_eq_of_lt hk, Nat.shiftRight_eq_div_pow, BitVec.toNat_ofNat, Nat.mod_eq_of_lt (Nat.lt_of_le_of_lt (Nat.div_le_self _ _) hn)]
theorem wb_shl (n : Nat) {k : Nat} (hk : k < 64) : lN n <<< ((nI k).toInt64 &&& 63) = lN (n * 2 ^ k) := by
  rw [wb_c k hk]
  apply wb_inj
  rw [Int64.toBitVec_shiftLeft, wb_tb, wb_tb, wb_tb, wb_sm k hk]
  apply BitVec.eq_of_toNat_eq
  rw [BitVec.shiftLeft_eq', BitVec.toNat_shiftLeft, BitVec.toNat_ofNat, BitVec.toNat_ofNat, BitVec.toNat_ofNat, Nat.mod_eq_of_lt (show k < 2 ^ 64 by omega), Nat.shiftLeft_eq, Nat.mul_mod, Nat.mod_mod, ← Nat.mul_mod]
theorem wb_and {a b : Nat} (ha : a < 2 ^ 64) (hb : b < 2 ^ 64) : lN a &&& lN b = lN (a &&& b) := by
  apply wb_inj
  rw [Int64.toBitVec_and, wb_tb, wb_tb, wb_tb]
  apply BitVec.eq_of_toNat_eq
  rw [BitVec.toNat_and, BitVec.toNat_ofNat, BitVec.toNat_ofNat, BitVec.toNat_ofNat, Nat.mod_eq_of_lt ha, Nat.mod_eq_of_lt hb, Nat.mod_eq_of_lt (Nat.and_lt_two_pow _ hb)]
theorem wb_or {a b : Nat} (ha : a < 2 ^ 64) (hb : b < 2 ^ 64) : lN a ||| lN b = lN (a ||| b) := by
  apply wb_inj
  rw [Int64.toBitVec_or, wb_tb, wb_tb, wb_tb]
  apply BitVec.eq_of_toNat_eq
  rw [BitVec.toNat_or, BitVec.toNat_ofNat, BitVec.toNat_ofNat, BitVec.toNat_ofNat, Nat.mod_eq_of_lt ha, Nat.mod_eq_of_lt hb, Nat.mod_eq_of_lt (Nat.or_lt_two_pow ha hb)]
theorem wb_mask {n k : Nat} (hn : n < 2 ^ 64) (hk : k < 64) : lN n &&& lN (2 ^ k - 1) = lN (n % 2 ^ k) := by
  rw [wb_and hn (by have := wb_lt2 hk; omega), Nat.and_two_pow_sub_one_eq_mod]
theorem wb_a1 {n : Nat} (hn : n < 2 ^ 64) : lN n &&& 1 = lN (n % 2) := wb_mask (k := 1) hn (by decide)
theorem wb_bit {n k : Nat} (hn : n < 2 ^ 64) (hk : k < 64) : ((lN n).toUInt64 >>> ((nI k).toInt64.toUInt64 &&& Int64.toUInt64 63)).toInt64 &&& 1 = lN (n / 2 ^ k % 2) := by
  rw [wb_shr hn hk, wb_a1 (Nat.lt_of_le_of_lt (Nat.div_le_self _ _) hn)]
theorem wb_xor {q k : Nat} (hk : k < 63) (h : 2 ^ k ≤ q) (h2 : q < 2 ^ (k + 1)) : lN q ^^^ lN (2 ^ k) = lN (q - 2 ^ k) := by
  obtain ⟨r, rfl⟩ : ∃ r, q = 2 ^ k + r := ⟨q - 2 ^ k, by omega⟩
  have hr : r < 2 ^ k := by rw [Nat.pow_succ] at h2; omega
  have hx : (2 ^ k + r) ^^^ 2 ^ k = r := by
    apply Nat.eq_of_testBit_eq
    intro i
    rw [Nat.testBit_xor, Nat.testBit_two_pow]
    rcases Nat.lt_trichotomy i k with h | h | h
    · rw [Nat.testBit_two_pow_add_gt h]
      simp [show ¬ k = i by omega]
    · subst h
      rw [Nat.testBit_two_pow_add_eq]
      simp
    · have a1 : 2 ^ (k + 1) ≤ 2 ^ i := Nat.pow_le_pow_right (by decide) h
      rw [Nat.testBit_lt_two_pow (show 2 ^ k + r < 2 ^ i by omega), Nat.testBit_lt_two_pow (show r < 2 ^ i by omega)]
      simp [show ¬ k = i by omega]
  have b1 := wb_lt2 (show k + 1 < 64 by omega)
  have b2 := wb_lt2 (show k < 64 by omega)
  apply wb_inj
  rw [Int64.toBitVec_xor, wb_tb, wb_tb, wb_tb]
  apply BitVec.eq_of_toNat_eq
  rw [BitVec.toNat_xor, BitVec.toNat_ofNat, BitVec.toNat_ofNat, BitVec.toNat_ofNat, Nat.mod_eq_of_lt (by omega : 2 ^ k + r < 2 ^ 64), Nat.mod_eq_of_lt b2, hx, Nat.add_sub_cancel_left, Nat.mod_eq_of_lt (by omega)]
/-! ===== lN: masks, 'or' of parts that don't overlap is a sum ===== -/
theorem u_tn {n : Nat} (h : n < 2 ^ 64) : (UInt64.ofNat n).toNat = n := Nat.mod_eq_of_lt h
theorem g_and {a b c : Nat} (ha : a < 2 ^ 64) (hb : b < 2 ^ 64) (hc : a &&& b = c) : lN a &&& lN b = lN c := by
  subst hc
  have h : UInt64.ofNat a &&& UInt64.ofNat b = UInt64.ofNat (a &&& b) := UInt64.toNat_inj.mp (by rw [UInt64.toNat_and, u_tn ha, u_tn hb, u_tn (Nat.and_lt_two_pow a hb)])
  have h2 := congrArg UInt64.toInt64 h
  exact h2
theorem g_and1 {a : Nat} (ha : a < 2 ^ 64) : lN a &&& 1 = lN (a % 2) := g_and (b := 1) ha (by decide) (Nat.and_two_pow_sub_one_eq_mod a 1)
theorem g_mask {a s p : Nat} (hp : 2 ^ s = p) (hs : s < 64) (ha : a < 2 ^ 64) : lN a &&& lN (p - 1) = lN (a % p) := by
  subst hp
  have := Nat.pow_lt_pow_right (show 1 < 2 by decide) hs
  exact g_and ha (by omega) (Nat.and_two_pow_sub_one_eq_mod a s)
theorem g_or {k p a b : Nat} (hp : 2 ^ k = p) (ha : a < p) (h : b * p + a < 2 ^ 64) : lN (b * p) ||| lN a = lN (b * p + a) := by
  subst hp
  have h1 : b * 2 ^ k ||| a = b * 2 ^ k + a := by rw [← Nat.shiftLeft_eq, Nat.shiftLeft_add_eq_or_of_lt ha]
  have h3 : UInt64.ofNat (b * 2 ^ k) ||| UInt64.ofNat a = UInt64.ofNat (b * 2 ^ k + a) := UInt64.toNat_inj.mp (by rw [UInt64.toNat_or, u_tn (by omega), u_tn (by omega), u_tn h, h1])
  have h2 := congrArg UInt64.toInt64 h3
  exact h2
theorem g_or' {k p a b : Nat} (hp : 2 ^ k = p) (ha : a < p) (h : a + b * p < 2 ^ 64) : lN a ||| lN (b * p) = lN (a + b * p) := by
  rw [Int64.or_comm, g_or hp ha (by omega), Nat.add_comm]
theorem g_ushr {a k p : Nat} {y : UInt64} (hy : y = UInt64.ofNat k) (hk : k < 64) (hp : 2 ^ k = p) (ha : a < 2 ^ 64) : ((lN a).toUInt64 >>> y).toInt64 = lN (a / p) := by
  subst hy hp
  have h : UInt64.ofNat a >>> UInt64.ofNat k = UInt64.ofNat (a / 2 ^ k) := UInt64.toNat_inj.mp (by rw [UInt64.toNat_shiftRight, u_tn ha, u_tn (by omega), u_tn (Nat.lt_of_le_of_lt (Nat.div_le_self _ _) ha), Nat.mod_eq_of_lt hk, Nat.shiftRight_eq_div_pow])
  have h2 := congrArg UInt64.toInt64 h
  exact h2
theorem g_shl {a k p : Nat} {y : Int64} (hy : y.toBitVec.smod 64 = BitVec.ofNat 64 k) (hk : k < 64) (hp : 2 ^ k = p) (ha : a < 2 ^ 64) : lN a <<< y = lN (a * p) := by
  subst hp
  apply Int64.toBitVec_inj.mp
  rw [Int64.toBitVec_shiftLeft, hy]
  apply BitVec.eq_of_toNat_eq
  have hb : (lN a).toBitVec.toNat = a := Nat.mod_eq_of_lt ha
  have hk' : (BitVec.ofNat 64 k).toNat = k := Nat.mod_eq_of_lt (by omega)
  have h : ((lN a).toBitVec <<< BitVec.ofNat 64 k).toNat = (a * 2 ^ k) % 2 ^ 64 := by simp only [BitVec.shiftLeft_eq', BitVec.toNat_shiftLeft, hb, hk', Nat.shiftLeft_eq]
  exact h
/-! ===== our own: packed small numbers ===== -/
theorem n_or (a b : Nat) : nI a ||| nI b = nI (a ||| b) := by
  apply Int32.toBitVec_inj.1
  show BitVec.ofNat 32 a ||| BitVec.ofNat 32 b = BitVec.ofNat 32 (a ||| b)
  apply BitVec.eq_of_getLsbD_eq
  intro i hi
  simp [hi]
theorem n_m1 : (-1 : Int32) = nI 4294967295 := by decide +kernel
theorem n_not (a b : Nat) : nI a &&& (nI b ^^^ (-1)) = nI (a &&& (b ^^^ 4294967295)) := by rw [n_m1, nx_xor, nx_and]
theorem n_cnt : ∀ n, n < 32 → ((nI n &&& 31).toBitVec.smod 32).toNat = n := s_l
theorem n_shl {a k : Nat} (hk : k < 32) (h : a * 2 ^ k < 2 ^ 32) : nI a <<< (nI k &&& 31) = nI (a * 2 ^ k) := pk_shlN _ k (n_cnt k hk) h
theorem n_shr {a k : Nat} (hk : k < 32) (h : a < 2 ^ 31) : nI a >>> (nI k &&& 31) = nI (a / 2 ^ k) := pk_shrN h _ k (n_cnt k hk)
theorem n_and7 (a : Nat) : nI a &&& nI 7 = nI (a % 8) := by
  rw [nx_and, show (7 : Nat) = 2 ^ 3 - 1 from rfl, Nat.and_two_pow_sub_one_eq_mod]
theorem n_and1 (a : Nat) : nI a &&& nI 1 = nI (a % 2) := by
  rw [nx_and, show (1 : Nat) = 2 ^ 1 - 1 from rfl, Nat.and_two_pow_sub_one_eq_mod]
theorem n_and255 (a : Nat) : nI a &&& nI 255 = nI (a % 256) := by
  rw [nx_and, show (255 : Nat) = 2 ^ 8 - 1 from rfl, Nat.and_two_pow_sub_one_eq_mod]
/-- a field of k bits at s cleared, in a number of w bits -/
theorem n_clr {hi mid lo s k w : Nat} (hmid : mid < 2 ^ k) (hlo : lo < 2 ^ s) (hw : 2 ^ (s + k) * hi + (2 ^ s * mid + lo) < 2 ^ w) :
    (2 ^ (s + k) * hi + (2 ^ s * mid + lo)) &&& ((2 ^ s * (2 ^ k - 1)) ^^^ (2 ^ w - 1)) = 2 ^ (s + k) * hi + lo := by
  have h1 : 2 ^ s * mid + lo < 2 ^ (s + k) := by
    rw [Nat.pow_add]
    have : 2 ^ s * mid + 2 ^ s ≤ 2 ^ s * 2 ^ k := by rw [← Nat.mul_succ]; exact Nat.mul_le_mul_left _ hmid
    omega
  have h2 : lo < 2 ^ (s + k) := Nat.lt_of_lt_of_le hlo (Nat.pow_le_pow_right (by decide) (by omega))
  apply Nat.eq_of_testBit_eq
  intro i
  rw [Nat.testBit_and, Nat.testBit_xor, Nat.testBit_two_pow_sub_one, Nat.testBit_two_pow_mul_add _ h1, Nat.testBit_two_pow_mul_add _ h2]
  have e0 : 2 ^ s * (2 ^ k - 1) = 2 ^ s * (2 ^ k - 1) + 0 := rfl
  have hs0 : 0 < 2 ^ s := Nat.two_pow_pos s
  rw [e0, Nat.testBit_two_pow_mul_add _ hs0, Nat.testBit_two_pow_sub_one]
  by_cases hik : i < s + k
  · rw [if_pos hik, if_pos hik]
    by_cases his : i < s
    · rw [Nat.testBit_two_pow_mul_add _ hlo, if_pos his, if_pos his]
      by_cases hiw : i < w
      · simp [hiw]
      · have : lo < 2 ^ i := by
          have h3 : 2 ^ (s + k) * hi + (2 ^ s * mid + lo) < 2 ^ i := Nat.lt_of_lt_of_le hw (Nat.pow_le_pow_right (by decide) (by omega))
          omega
        rw [Nat.testBit_lt_two_pow this]
        simp
    · rw [Nat.testBit_two_pow_mul_add _ hlo, if_neg his, if_neg his]
      have h4 : lo.testBit i = false := Nat.testBit_lt_two_pow (Nat.lt_of_lt_of_le hlo (Nat.pow_le_pow_right (by decide) (by omega)))
      rw [h4]
      have h5 : i - s < k := by omega
      by_cases hiw : i < w
      · simp [hiw, h5]
      · have h6 : mid.testBit (i - s) = false := by
          apply Nat.testBit_lt_two_pow
          have h3 : 2 ^ (s + k) * hi + (2 ^ s * mid + lo) < 2 ^ i := Nat.lt_of_lt_of_le hw (Nat.pow_le_pow_right (by decide) (by omega))
          have h7 : 2 ^ s * mid < 2 ^ s * 2 ^ (i - s) := by rw [← Nat.pow_add, show s + (i - s) = i by omega]; omega
          exact Nat.lt_of_mul_lt_mul_left h7
        rw [h6]; simp
  · rw [if_neg hik, if_neg hik, if_neg (by omega)]
    have h5 : ¬ i - s < k := by omega
    by_cases hiw : i < w
    · simp [hiw, h5]
    · have h6 : hi.testBit (i - (s + k)) = false := by
        apply Nat.testBit_lt_two_pow
        have h3 : 2 ^ (s + k) * hi + (2 ^ s * mid + lo) < 2 ^ i := Nat.lt_of_lt_of_le hw (Nat.pow_le_pow_right (by decide) (by omega))
        have h7 : 2 ^ (s + k) * hi < 2 ^ (s + k) * 2 ^ (i - (s + k)) := by rw [← Nat.pow_add, show s + k + (i - (s + k)) = i by omega]; omega
        exact Nat.lt_of_mul_lt_mul_left h7
      rw [h6]; simp
theorem n_put {hi lo v s k : Nat} (hv : v < 2 ^ k) (hlo : lo < 2 ^ s) : (2 ^ (s + k) * hi + lo) ||| (2 ^ s * v) = 2 ^ (s + k) * hi + (2 ^ s * v + lo) := by
  have h1 : 2 ^ s * v + lo < 2 ^ (s + k) := by
    rw [Nat.pow_add]
    have : 2 ^ s * v + 2 ^ s ≤ 2 ^ s * 2 ^ k := by rw [← Nat.mul_succ]; exact Nat.mul_le_mul_left _ hv
    omega
  have h2 : lo < 2 ^ (s + k) := Nat.lt_of_lt_of_le hlo (Nat.pow_le_pow_right (by decide) (by omega))
  apply Nat.eq_of_testBit_eq
  intro i
  have e0 : 2 ^ s * v = 2 ^ s * v + 0 := rfl
  have hs0 : 0 < 2 ^ s := Nat.two_pow_pos s
  rw [Nat.testBit_or, Nat.testBit_two_pow_mul_add _ h1, Nat.testBit_two_pow_mul_add _ h2, e0, Nat.testBit_two_pow_mul_add _ hs0]
  have hv' : ∀ j, k ≤ j → v.testBit j = false := fun j hj => Nat.testBit_lt_two_pow (Nat.lt_of_lt_of_le hv (Nat.pow_le_pow_right (by decide) hj))
  by_cases hik : i < s + k
  · rw [if_pos hik, if_pos hik]
    show _ = (2 ^ s * v + lo).testBit i
    rw [Nat.testBit_two_pow_mul_add _ hlo]
    by_cases his : i < s
    · rw [if_pos his, if_pos his]; simp
    · rw [if_neg his, if_neg his]
      have h4 : lo.testBit i = false := Nat.testBit_lt_two_pow (Nat.lt_of_lt_of_le hlo (Nat.pow_le_pow_right (by decide) (by omega)))
      rw [h4]; simp
  · rw [if_neg hik, if_neg hik, if_neg (by omega), hv' _ (by omega)]
    simp
end
section
/-! ===== a call is its method's entry ===== -/
theorem q_is {k a ci : Nat} {fs : List Value} {As : List Value} {σ : qH} (hm : (q_ms k).2.1.2.1 = ci) (h : σ.1 a = some (.inl (ci, fs))) (hl : Nat.beq (As.length + 1) ((q_ms k).2.2.1.getD 4 0) = true) (hw : Nat.ble (lg_sl (.ref a :: As)).length (q_ms k).1.2.2.1 = true) : q_call k (.ref a :: As) σ = q_run k 0 (lv_args 0 (.ref a :: As)) [] σ := by
  rw [q_call_eq]
  unfold q_ent
  have e1 : q_obj σ ((Value.ref a :: As).headD .null) (q_ms k).2.1.2.1 = some fs := by
    show q_obj σ (.ref a) _ = some fs
    unfold q_obj
    rw [hm]
    simp [h]
  rw [e1, show (Value.ref a :: As).length = As.length + 1 from rfl, hl, hw]
  simp only [Option.isSome_some, Bool.or_true, Bool.and_true]
  rfl
theorem k_0 {x0 : Nat}  {σ : qH} {fs : List Value} (h : σ.1 x0 = some (.inl (3, fs))) : q_call 0 [.ref x0] σ = q_run 0 0 [(0, .ref x0)] [] σ := q_is (As := []) rfl h rfl rfl
theorem k_1 {x0 : Nat}  {σ : qH} {fs : List Value} (h : σ.1 x0 = some (.inl (0, fs))) : q_call 1 [.ref x0] σ = q_run 1 0 [(0, .ref x0)] [] σ := q_is (As := []) rfl h rfl rfl
theorem k_2 {x0 : Nat}  {σ : qH} {fs : List Value} (h : σ.1 x0 = some (.inl (2, fs))) : q_call 2 [.ref x0] σ = q_run 2 0 [(0, .ref x0)] [] σ := q_is (As := []) rfl h rfl rfl
theorem k_3 {x0 : Nat}  {σ : qH} {fs : List Value} (h : σ.1 x0 = some (.inl (1, fs))) : q_call 3 [.ref x0] σ = q_run 3 0 [(0, .ref x0)] [] σ := q_is (As := []) rfl h rfl rfl
theorem k_4 {x0 : Nat}  {σ : qH} {fs : List Value} (h : σ.1 x0 = some (.inl (5, fs))) : q_call 4 [.ref x0] σ = q_run 4 0 [(0, .ref x0)] [] σ := q_is (As := []) rfl h rfl rfl
theorem k_5 {x0 : Nat}  {σ : qH} {fs : List Value} (h : σ.1 x0 = some (.inl (6, fs))) : q_call 5 [.ref x0] σ = q_run 5 0 [(0, .ref x0)] [] σ := q_is (As := []) rfl h rfl rfl
theorem k_6 {x0 : Nat} {x1 : Int32} {σ : qH} {fs : List Value} (h : σ.1 x0 = some (.inl (7, fs))) : q_call 6 [.ref x0, .int x1] σ = q_run 6 0 [(0, .ref x0), (1, .int x1)] [] σ := q_is (As := [.int x1]) rfl h rfl rfl
theorem k_7 (x0 : Int32) (σ : qH) : q_call 7 [.int x0] σ = q_run 7 0 [(0, .int x0)] [] σ := (q_call_eq 7 [.int x0] σ).trans rfl
theorem k_8 (x0 : Int32) (x1 : Int32) (x2 : Int32) (σ : qH) : q_call 8 [.int x0, .int x1, .int x2] σ = q_run 8 0 [(0, .int x0), (1, .int x1), (2, .int x2)] [] σ := (q_call_eq 8 [.int x0, .int x1, .int x2] σ).trans rfl
theorem k_9 (x0 : Int32) (σ : qH) : q_call 9 [.int x0] σ = q_run 9 0 [(0, .int x0)] [] σ := (q_call_eq 9 [.int x0] σ).trans rfl
theorem k_10 {x0 : Nat}  {σ : qH} {fs : List Value} (h : σ.1 x0 = some (.inl (7, fs))) : q_call 10 [.ref x0] σ = q_run 10 0 [(0, .ref x0)] [] σ := q_is (As := []) rfl h rfl rfl
theorem k_11 {x0 : Nat} {x1 : Int32} {x2 : Int32} {σ : qH} {fs : List Value} (h : σ.1 x0 = some (.inl (7, fs))) : q_call 11 [.ref x0, .int x1, .int x2] σ = q_run 11 0 [(0, .ref x0), (1, .int x1), (2, .int x2)] [] σ := q_is (As := [.int x1, .int x2]) rfl h rfl rfl
theorem k_12 {x0 : Nat} {x1 : Int32} {x2 : Int32} {x3 : Int32} {σ : qH} {fs : List Value} (h : σ.1 x0 = some (.inl (7, fs))) : q_call 12 [.ref x0, .int x1, .int x2, .int x3] σ = q_run 12 0 [(0, .ref x0), (1, .int x1), (2, .int x2), (3, .int x3)] [] σ := q_is (As := [.int x1, .int x2, .int x3]) rfl h rfl rfl
theorem k_13 {x0 : Nat}  {σ : qH} {fs : List Value} (h : σ.1 x0 = some (.inl (7, fs))) : q_call 13 [.ref x0] σ = q_run 13 0 [(0, .ref x0)] [] σ := q_is (As := []) rfl h rfl rfl
theorem k_14 {x0 : Nat}  {σ : qH} {fs : List Value} (h : σ.1 x0 = some (.inl (7, fs))) : q_call 14 [.ref x0] σ = q_run 14 0 [(0, .ref x0)] [] σ := q_is (As := []) rfl h rfl rfl
theorem k_15 {x0 : Nat}  {σ : qH} {fs : List Value} (h : σ.1 x0 = some (.inl (7, fs))) : q_call 15 [.ref x0] σ = q_run 15 0 [(0, .ref x0)] [] σ := q_is (As := []) rfl h rfl rfl
theorem k_16 {x0 : Nat}  {σ : qH} {fs : List Value} (h : σ.1 x0 = some (.inl (7, fs))) : q_call 16 [.ref x0] σ = q_run 16 0 [(0, .ref x0)] [] σ := q_is (As := []) rfl h rfl rfl
theorem k_17 {x0 : Nat}  {σ : qH} {fs : List Value} (h : σ.1 x0 = some (.inl (7, fs))) : q_call 17 [.ref x0] σ = q_run 17 0 [(0, .ref x0)] [] σ := q_is (As := []) rfl h rfl rfl
theorem k_18 {x0 : Nat} {x1 : Int32} {σ : qH} {fs : List Value} (h : σ.1 x0 = some (.inl (6, fs))) : q_call 18 [.ref x0, .int x1] σ = q_run 18 0 [(0, .ref x0), (1, .int x1)] [] σ := q_is (As := [.int x1]) rfl h rfl rfl
theorem k_19 {x0 : Nat} {x1 : Int32} {σ : qH} {fs : List Value} (h : σ.1 x0 = some (.inl (7, fs))) : q_call 19 [.ref x0, .int x1] σ = q_run 19 0 [(0, .ref x0), (1, .int x1)] [] σ := q_is (As := [.int x1]) rfl h rfl rfl
theorem k_20 {x0 : Nat}  {σ : qH} {fs : List Value} (h : σ.1 x0 = some (.inl (6, fs))) : q_call 20 [.ref x0] σ = q_run 20 0 [(0, .ref x0)] [] σ := q_is (As := []) rfl h rfl rfl
theorem k_21 {x0 : Nat}  {σ : qH} {fs : List Value} (h : σ.1 x0 = some (.inl (7, fs))) : q_call 21 [.ref x0] σ = q_run 21 0 [(0, .ref x0)] [] σ := q_is (As := []) rfl h rfl rfl
theorem k_22 {x0 : Nat} {x1 : Nat} {x2 : Int32} {σ : qH} {fs : List Value} (h : σ.1 x0 = some (.inl (4, fs))) : q_call 22 [.ref x0, .ref x1, .int x2] σ = q_run 22 0 [(0, .ref x0), (1, .ref x1), (2, .int x2)] [] σ := q_is (As := [.ref x1, .int x2]) rfl h rfl rfl
theorem k_23 {x0 : Nat} {x1 : Int32} {σ : qH} {fs : List Value} (h : σ.1 x0 = some (.inl (4, fs))) : q_call 23 [.ref x0, .int x1] σ = q_run 23 0 [(0, .ref x0), (1, .int x1)] [] σ := q_is (As := [.int x1]) rfl h rfl rfl
theorem k_24 {x0 : Nat} {x1 : Int32} {σ : qH} {fs : List Value} (h : σ.1 x0 = some (.inl (4, fs))) : q_call 24 [.ref x0, .int x1] σ = q_run 24 0 [(0, .ref x0), (1, .int x1)] [] σ := q_is (As := [.int x1]) rfl h rfl rfl
theorem k_25 {x0 : Nat} {x1 : Int32} {σ : qH} {fs : List Value} (h : σ.1 x0 = some (.inl (4, fs))) : q_call 25 [.ref x0, .int x1] σ = q_run 25 0 [(0, .ref x0), (1, .int x1)] [] σ := q_is (As := [.int x1]) rfl h rfl rfl
theorem k_26 {x0 : Nat} {x1 : Int32} {σ : qH} {fs : List Value} (h : σ.1 x0 = some (.inl (4, fs))) : q_call 26 [.ref x0, .int x1] σ = q_run 26 0 [(0, .ref x0), (1, .int x1)] [] σ := q_is (As := [.int x1]) rfl h rfl rfl
theorem k_27 {x0 : Nat} {x1 : Int32} {σ : qH} {fs : List Value} (h : σ.1 x0 = some (.inl (4, fs))) : q_call 27 [.ref x0, .int x1] σ = q_run 27 0 [(0, .ref x0), (1, .int x1)] [] σ := q_is (As := [.int x1]) rfl h rfl rfl
theorem k_28 {x0 : Nat} {x1 : Int32} {σ : qH} {fs : List Value} (h : σ.1 x0 = some (.inl (3, fs))) : q_call 28 [.ref x0, .int x1] σ = q_run 28 0 [(0, .ref x0), (1, .int x1)] [] σ := q_is (As := [.int x1]) rfl h rfl rfl
theorem k_29 {x0 : Nat} {x1 : Int32} {σ : qH} {fs : List Value} (h : σ.1 x0 = some (.inl (4, fs))) : q_call 29 [.ref x0, .int x1] σ = q_run 29 0 [(0, .ref x0), (1, .int x1)] [] σ := q_is (As := [.int x1]) rfl h rfl rfl
theorem k_30 {x0 : Nat} {x1 : Int32} {σ : qH} {fs : List Value} (h : σ.1 x0 = some (.inl (4, fs))) : q_call 30 [.ref x0, .int x1] σ = q_run 30 0 [(0, .ref x0), (1, .int x1)] [] σ := q_is (As := [.int x1]) rfl h rfl rfl
theorem k_31 {x0 : Nat} {x1 : Int32} {σ : qH} {fs : List Value} (h : σ.1 x0 = some (.inl (4, fs))) : q_call 31 [.ref x0, .int x1] σ = q_run 31 0 [(0, .ref x0), (1, .int x1)] [] σ := q_is (As := [.int x1]) rfl h rfl rfl
theorem k_32 (x0 : Int32) (σ : qH) : q_call 32 [.int x0] σ = q_run 32 0 [(0, .int x0)] [] σ := (q_call_eq 32 [.int x0] σ).trans rfl
theorem k_33 (x0 : Int64) (x2 : Int32) (x3 : Int32) (σ : qH) : q_call 33 [.long x0, .int x2, .int x3] σ = q_run 33 0 [(0, .long x0), (2, .int x2), (3, .int x3)] [] σ := (q_call_eq 33 [.long x0, .int x2, .int x3] σ).trans rfl
theorem k_34 {x0 : Nat} {x1 : Int32} {x2 : Int32} {σ : qH} {fs : List Value} (h : σ.1 x0 = some (.inl (3, fs))) : q_call 34 [.ref x0, .int x1, .int x2] σ = q_run 34 0 [(0, .ref x0), (1, .int x1), (2, .int x2)] [] σ := q_is (As := [.int x1, .int x2]) rfl h rfl rfl
theorem k_35 (x0 : Int64) (x2 : Int32) (σ : qH) : q_call 35 [.long x0, .int x2] σ = q_run 35 0 [(0, .long x0), (2, .int x2)] [] σ := (q_call_eq 35 [.long x0, .int x2] σ).trans rfl
theorem k_36 {x0 : Nat} {x1 : Int32} {x2 : Int32} {σ : qH} {fs : List Value} (h : σ.1 x0 = some (.inl (3, fs))) : q_call 36 [.ref x0, .int x1, .int x2] σ = q_run 36 0 [(0, .ref x0), (1, .int x1), (2, .int x2)] [] σ := q_is (As := [.int x1, .int x2]) rfl h rfl rfl
theorem k_37 (x0 : Int32) (x1 : Int32) (x2 : Int32) (σ : qH) : q_call 37 [.int x0, .int x1, .int x2] σ = q_run 37 0 [(0, .int x0), (1, .int x1), (2, .int x2)] [] σ := (q_call_eq 37 [.int x0, .int x1, .int x2] σ).trans rfl
theorem k_38 {x0 : Nat} {x1 : Int32} {x2 : Int32} {x3 : Int32} {σ : qH} {fs : List Value} (h : σ.1 x0 = some (.inl (3, fs))) : q_call 38 [.ref x0, .int x1, .int x2, .int x3] σ = q_run 38 0 [(0, .ref x0), (1, .int x1), (2, .int x2), (3, .int x3)] [] σ := q_is (As := [.int x1, .int x2, .int x3]) rfl h rfl rfl
theorem k_39 {x0 : Nat} {x1 : Int32} {σ : qH} {fs : List Value} (h : σ.1 x0 = some (.inl (3, fs))) : q_call 39 [.ref x0, .int x1] σ = q_run 39 0 [(0, .ref x0), (1, .int x1)] [] σ := q_is (As := [.int x1]) rfl h rfl rfl
theorem k_40 {x0 : Nat}  {σ : qH} {fs : List Value} (h : σ.1 x0 = some (.inl (4, fs))) : q_call 40 [.ref x0] σ = q_run 40 0 [(0, .ref x0)] [] σ := q_is (As := []) rfl h rfl rfl
theorem k_41 {x0 : Nat} {x1 : Int32} {σ : qH} {fs : List Value} (h : σ.1 x0 = some (.inl (4, fs))) : q_call 41 [.ref x0, .int x1] σ = q_run 41 0 [(0, .ref x0), (1, .int x1)] [] σ := q_is (As := [.int x1]) rfl h rfl rfl
theorem k_42 {x0 : Nat} {x1 : Int32} {σ : qH} {fs : List Value} (h : σ.1 x0 = some (.inl (4, fs))) : q_call 42 [.ref x0, .int x1] σ = q_run 42 0 [(0, .ref x0), (1, .int x1)] [] σ := q_is (As := [.int x1]) rfl h rfl rfl
theorem k_43 {x0 : Nat}  {σ : qH} {fs : List Value} (h : σ.1 x0 = some (.inl (4, fs))) : q_call 43 [.ref x0] σ = q_run 43 0 [(0, .ref x0)] [] σ := q_is (As := []) rfl h rfl rfl
theorem k_44 {x0 : Nat} {x1 : Nat} {σ : qH} {fs : List Value} (h : σ.1 x0 = some (.inl (0, fs))) : q_call 44 [.ref x0, .ref x1] σ = q_run 44 0 [(0, .ref x0), (1, .ref x1)] [] σ := q_is (As := [.ref x1]) rfl h rfl rfl
theorem k_45 {x0 : Nat}  {σ : qH} {fs : List Value} (h : σ.1 x0 = some (.inl (2, fs))) : q_call 45 [.ref x0] σ = q_run 45 0 [(0, .ref x0)] [] σ := q_is (As := []) rfl h rfl rfl
theorem k_46 {x0 : Nat}  {σ : qH} {fs : List Value} (h : σ.1 x0 = some (.inl (1, fs))) : q_call 46 [.ref x0] σ = q_run 46 0 [(0, .ref x0)] [] σ := q_is (As := []) rfl h rfl rfl
theorem k_47 {x0 : Nat}  {σ : qH} {fs : List Value} (h : σ.1 x0 = some (.inl (6, fs))) : q_call 47 [.ref x0] σ = q_run 47 0 [(0, .ref x0)] [] σ := q_is (As := []) rfl h rfl rfl
theorem k_48 {x0 : Nat}  {σ : qH} {fs : List Value} (h : σ.1 x0 = some (.inl (7, fs))) : q_call 48 [.ref x0] σ = q_run 48 0 [(0, .ref x0)] [] σ := q_is (As := []) rfl h rfl rfl
theorem k_49 (x0 : Int32) (x1 : Int32) (σ : qH) : q_call 49 [.int x0, .int x1] σ = q_run 49 0 [(0, .int x0), (1, .int x1)] [] σ := (q_call_eq 49 [.int x0, .int x1] σ).trans rfl
theorem k_50 {x0 : Nat} {x1 : Int32} {x2 : Int32} {σ : qH} {fs : List Value} (h : σ.1 x0 = some (.inl (3, fs))) : q_call 50 [.ref x0, .int x1, .int x2] σ = q_run 50 0 [(0, .ref x0), (1, .int x1), (2, .int x2)] [] σ := q_is (As := [.int x1, .int x2]) rfl h rfl rfl
theorem k_51 {x0 : Nat} {x1 : Nat} {σ : qH} {fs : List Value} (h : σ.1 x0 = some (.inl (0, fs))) : q_call 51 [.ref x0, .ref x1] σ = q_run 51 0 [(0, .ref x0), (1, .ref x1)] [] σ := q_is (As := [.ref x1]) rfl h rfl rfl
theorem k_52 (x0 : Int32) (x1 : Int32) (σ : qH) : q_call 52 [.int x0, .int x1] σ = q_run 52 0 [(0, .int x0), (1, .int x1)] [] σ := (q_call_eq 52 [.int x0, .int x1] σ).trans rfl
theorem k_53 {x0 : Nat} {x1 : Nat} {x2 : Int32} {x3 : Int32} {σ : qH} {fs : List Value} (h : σ.1 x0 = some (.inl (0, fs))) : q_call 53 [.ref x0, .ref x1, .int x2, .int x3] σ = q_run 53 0 [(0, .ref x0), (1, .ref x1), (2, .int x2), (3, .int x3)] [] σ := q_is (As := [.ref x1, .int x2, .int x3]) rfl h rfl rfl
theorem k_54 {x0 : Nat} {x1 : Int32} {x2 : Int32} {σ : qH} {fs : List Value} (h : σ.1 x0 = some (.inl (3, fs))) : q_call 54 [.ref x0, .int x1, .int x2] σ = q_run 54 0 [(0, .ref x0), (1, .int x1), (2, .int x2)] [] σ := q_is (As := [.int x1, .int x2]) rfl h rfl rfl
theorem k_55 {x0 : Nat}  {σ : qH} {fs : List Value} (h : σ.1 x0 = some (.inl (0, fs))) : q_call 55 [.ref x0] σ = q_run 55 0 [(0, .ref x0)] [] σ := q_is (As := []) rfl h rfl rfl
theorem k_56 (x0 : Int32) (σ : qH) : q_call 56 [.int x0] σ = q_run 56 0 [(0, .int x0)] [] σ := (q_call_eq 56 [.int x0] σ).trans rfl
theorem k_57 {x0 : Nat} {x1 : Nat} {x2 : Int32} {σ : qH} {fs : List Value} (h : σ.1 x0 = some (.inl (0, fs))) : q_call 57 [.ref x0, .ref x1, .int x2] σ = q_run 57 0 [(0, .ref x0), (1, .ref x1), (2, .int x2)] [] σ := q_is (As := [.ref x1, .int x2]) rfl h rfl rfl
theorem k_58 {x0 : Nat} {x1 : Nat} {σ : qH} {fs : List Value} (h : σ.1 x0 = some (.inl (0, fs))) : q_call 58 [.ref x0, .ref x1] σ = q_run 58 0 [(0, .ref x0), (1, .ref x1)] [] σ := q_is (As := [.ref x1]) rfl h rfl rfl
theorem k_59 {x0 : Nat} {x1 : Int32} {σ : qH} {fs : List Value} (h : σ.1 x0 = some (.inl (6, fs))) : q_call 59 [.ref x0, .int x1] σ = q_run 59 0 [(0, .ref x0), (1, .int x1)] [] σ := q_is (As := [.int x1]) rfl h rfl rfl
theorem k_60 {x0 : Nat} {x1 : Int32} {x2 : Int32} {σ : qH} {fs : List Value} (h : σ.1 x0 = some (.inl (6, fs))) : q_call 60 [.ref x0, .int x1, .int x2] σ = q_run 60 0 [(0, .ref x0), (1, .int x1), (2, .int x2)] [] σ := q_is (As := [.int x1, .int x2]) rfl h rfl rfl
theorem k_61 {x0 : Nat} {x1 : Int32} {σ : qH} {fs : List Value} (h : σ.1 x0 = some (.inl (7, fs))) : q_call 61 [.ref x0, .int x1] σ = q_run 61 0 [(0, .ref x0), (1, .int x1)] [] σ := q_is (As := [.int x1]) rfl h rfl rfl
theorem k_62 {x0 : Nat} {x1 : Int32} {σ : qH} {fs : List Value} (h : σ.1 x0 = some (.inl (7, fs))) : q_call 62 [.ref x0, .int x1] σ = q_run 62 0 [(0, .ref x0), (1, .int x1)] [] σ := q_is (As := [.int x1]) rfl h rfl rfl
theorem k_63 {x0 : Nat}  {σ : qH} {fs : List Value} (h : σ.1 x0 = some (.inl (7, fs))) : q_call 63 [.ref x0] σ = q_run 63 0 [(0, .ref x0)] [] σ := q_is (As := []) rfl h rfl rfl
theorem k_64 (x0 : Int32) (x1 : Int32) (σ : qH) : q_call 64 [.int x0, .int x1] σ = q_run 64 0 [(0, .int x0), (1, .int x1)] [] σ := (q_call_eq 64 [.int x0, .int x1] σ).trans rfl
theorem k_65 (x0 : Int32) (σ : qH) : q_call 65 [.int x0] σ = q_run 65 0 [(0, .int x0)] [] σ := (q_call_eq 65 [.int x0] σ).trans rfl
theorem k_66 {x0 : Nat} {x1 : Int32} {x2 : Int32} {σ : qH} {fs : List Value} (h : σ.1 x0 = some (.inl (7, fs))) : q_call 66 [.ref x0, .int x1, .int x2] σ = q_run 66 0 [(0, .ref x0), (1, .int x1), (2, .int x2)] [] σ := q_is (As := [.int x1, .int x2]) rfl h rfl rfl
theorem k_67 {x0 : Nat}  {σ : qH} {fs : List Value} (h : σ.1 x0 = some (.inl (7, fs))) : q_call 67 [.ref x0] σ = q_run 67 0 [(0, .ref x0)] [] σ := q_is (As := []) rfl h rfl rfl
theorem k_68 {x0 : Nat}  {σ : qH} {fs : List Value} (h : σ.1 x0 = some (.inl (7, fs))) : q_call 68 [.ref x0] σ = q_run 68 0 [(0, .ref x0)] [] σ := q_is (As := []) rfl h rfl rfl
theorem k_69 {x0 : Nat} {x1 : Int32} {σ : qH} {fs : List Value} (h : σ.1 x0 = some (.inl (7, fs))) : q_call 69 [.ref x0, .int x1] σ = q_run 69 0 [(0, .ref x0), (1, .int x1)] [] σ := q_is (As := [.int x1]) rfl h rfl rfl
theorem k_70 {x0 : Nat} {x1 : Int32} {x2 : Int32} {σ : qH} {fs : List Value} (h : σ.1 x0 = some (.inl (7, fs))) : q_call 70 [.ref x0, .int x1, .int x2] σ = q_run 70 0 [(0, .ref x0), (1, .int x1), (2, .int x2)] [] σ := q_is (As := [.int x1, .int x2]) rfl h rfl rfl
theorem k_71 {x0 : Nat} {x1 : Int32} {σ : qH} {fs : List Value} (h : σ.1 x0 = some (.inl (3, fs))) : q_call 71 [.ref x0, .int x1] σ = q_run 71 0 [(0, .ref x0), (1, .int x1)] [] σ := q_is (As := [.int x1]) rfl h rfl rfl
theorem k_72 {x0 : Nat} {x1 : Int32} {x2 : Int32} {σ : qH} {fs : List Value} (h : σ.1 x0 = some (.inl (6, fs))) : q_call 72 [.ref x0, .int x1, .int x2] σ = q_run 72 0 [(0, .ref x0), (1, .int x1), (2, .int x2)] [] σ := q_is (As := [.int x1, .int x2]) rfl h rfl rfl
theorem k_73 {x0 : Nat} {x1 : Int32} {σ : qH} {fs : List Value} (h : σ.1 x0 = some (.inl (7, fs))) : q_call 73 [.ref x0, .int x1] σ = q_run 73 0 [(0, .ref x0), (1, .int x1)] [] σ := q_is (As := [.int x1]) rfl h rfl rfl
theorem k_74 {x0 : Nat} {x1 : Int32} {x2 : Int32} {σ : qH} {fs : List Value} (h : σ.1 x0 = some (.inl (7, fs))) : q_call 74 [.ref x0, .int x1, .int x2] σ = q_run 74 0 [(0, .ref x0), (1, .int x1), (2, .int x2)] [] σ := q_is (As := [.int x1, .int x2]) rfl h rfl rfl
theorem k_75 {x0 : Nat} {x1 : Int32} {σ : qH} {fs : List Value} (h : σ.1 x0 = some (.inl (3, fs))) : q_call 75 [.ref x0, .int x1] σ = q_run 75 0 [(0, .ref x0), (1, .int x1)] [] σ := q_is (As := [.int x1]) rfl h rfl rfl
theorem k_76 (x0 : Int64) (σ : qH) : q_call 76 [.long x0] σ = q_run 76 0 [(0, .long x0)] [] σ := (q_call_eq 76 [.long x0] σ).trans rfl
theorem k_77 {x0 : Nat} {x1 : Int32} {σ : qH} {fs : List Value} (h : σ.1 x0 = some (.inl (6, fs))) : q_call 77 [.ref x0, .int x1] σ = q_run 77 0 [(0, .ref x0), (1, .int x1)] [] σ := q_is (As := [.int x1]) rfl h rfl rfl
theorem k_78 {x0 : Nat}  {σ : qH} {fs : List Value} (h : σ.1 x0 = some (.inl (7, fs))) : q_call 78 [.ref x0] σ = q_run 78 0 [(0, .ref x0)] [] σ := q_is (As := []) rfl h rfl rfl
theorem k_79 {x0 : Nat} {x1 : Int32} {σ : qH} {fs : List Value} (h : σ.1 x0 = some (.inl (7, fs))) : q_call 79 [.ref x0, .int x1] σ = q_run 79 0 [(0, .ref x0), (1, .int x1)] [] σ := q_is (As := [.int x1]) rfl h rfl rfl
theorem k_80 (x0 : Nat) (x1 : Int32) (σ : qH) : q_call 80 [.ref x0, .int x1] σ = q_run 80 0 [(0, .ref x0), (1, .int x1)] [] σ := (q_call_eq 80 [.ref x0, .int x1] σ).trans rfl
theorem k_81 {x0 : Nat} {x1 : Nat} {σ : qH} {fs : List Value} (h : σ.1 x0 = some (.inl (2, fs))) : q_call 81 [.ref x0, .ref x1] σ = q_run 81 0 [(0, .ref x0), (1, .ref x1)] [] σ := q_is (As := [.ref x1]) rfl h rfl rfl
theorem k_82 {x0 : Nat}  {σ : qH} {fs : List Value} (h : σ.1 x0 = some (.inl (6, fs))) : q_call 82 [.ref x0] σ = q_run 82 0 [(0, .ref x0)] [] σ := q_is (As := []) rfl h rfl rfl
theorem k_83 {x0 : Nat}  {σ : qH} {fs : List Value} (h : σ.1 x0 = some (.inl (7, fs))) : q_call 83 [.ref x0] σ = q_run 83 0 [(0, .ref x0)] [] σ := q_is (As := []) rfl h rfl rfl
theorem k_84 {x0 : Nat}  {σ : qH} {fs : List Value} (h : σ.1 x0 = some (.inl (7, fs))) : q_call 84 [.ref x0] σ = q_run 84 0 [(0, .ref x0)] [] σ := q_is (As := []) rfl h rfl rfl
theorem k_85 {x0 : Nat} {x1 : Int32} {x2 : Int32} {σ : qH} {fs : List Value} (h : σ.1 x0 = some (.inl (6, fs))) : q_call 85 [.ref x0, .int x1, .int x2] σ = q_run 85 0 [(0, .ref x0), (1, .int x1), (2, .int x2)] [] σ := q_is (As := [.int x1, .int x2]) rfl h rfl rfl
theorem k_86 {x0 : Nat} {x1 : Int32} {x2 : Int32} {σ : qH} {fs : List Value} (h : σ.1 x0 = some (.inl (7, fs))) : q_call 86 [.ref x0, .int x1, .int x2] σ = q_run 86 0 [(0, .ref x0), (1, .int x1), (2, .int x2)] [] σ := q_is (As := [.int x1, .int x2]) rfl h rfl rfl
theorem k_87 {x0 : Nat} {x1 : Int32} {x2 : Int32} {σ : qH} {fs : List Value} (h : σ.1 x0 = some (.inl (7, fs))) : q_call 87 [.ref x0, .int x1, .int x2] σ = q_run 87 0 [(0, .ref x0), (1, .int x1), (2, .int x2)] [] σ := q_is (As := [.int x1, .int x2]) rfl h rfl rfl
theorem k_88 (x0 : Int32) (σ : qH) : q_call 88 [.int x0] σ = q_run 88 0 [(0, .int x0)] [] σ := (q_call_eq 88 [.int x0] σ).trans rfl
theorem k_89 {x0 : Nat} {x1 : Int32} {σ : qH} {fs : List Value} (h : σ.1 x0 = some (.inl (6, fs))) : q_call 89 [.ref x0, .int x1] σ = q_run 89 0 [(0, .ref x0), (1, .int x1)] [] σ := q_is (As := [.int x1]) rfl h rfl rfl
theorem k_90 {x0 : Nat} {x1 : Int32} {σ : qH} {fs : List Value} (h : σ.1 x0 = some (.inl (7, fs))) : q_call 90 [.ref x0, .int x1] σ = q_run 90 0 [(0, .ref x0), (1, .int x1)] [] σ := q_is (As := [.int x1]) rfl h rfl rfl
theorem k_91 {x0 : Nat} {x1 : Int32} {σ : qH} {fs : List Value} (h : σ.1 x0 = some (.inl (6, fs))) : q_call 91 [.ref x0, .int x1] σ = q_run 91 0 [(0, .ref x0), (1, .int x1)] [] σ := q_is (As := [.int x1]) rfl h rfl rfl
theorem k_92 {x0 : Nat} {x1 : Int32} {σ : qH} {fs : List Value} (h : σ.1 x0 = some (.inl (7, fs))) : q_call 92 [.ref x0, .int x1] σ = q_run 92 0 [(0, .ref x0), (1, .int x1)] [] σ := q_is (As := [.int x1]) rfl h rfl rfl
theorem k_93 {x0 : Nat} {x1 : Nat} {σ : qH} {fs : List Value} (h : σ.1 x0 = some (.inl (0, fs))) : q_call 93 [.ref x0, .ref x1] σ = q_run 93 0 [(0, .ref x0), (1, .ref x1)] [] σ := q_is (As := [.ref x1]) rfl h rfl rfl
theorem k_94 {x0 : Nat}  {σ : qH} {fs : List Value} (h : σ.1 x0 = some (.inl (6, fs))) : q_call 94 [.ref x0] σ = q_run 94 0 [(0, .ref x0)] [] σ := q_is (As := []) rfl h rfl rfl
theorem k_95 {x0 : Nat}  {σ : qH} {fs : List Value} (h : σ.1 x0 = some (.inl (7, fs))) : q_call 95 [.ref x0] σ = q_run 95 0 [(0, .ref x0)] [] σ := q_is (As := []) rfl h rfl rfl
theorem k_96 {x0 : Nat} {x1 : Nat} {σ : qH} {fs : List Value} (h : σ.1 x0 = some (.inl (2, fs))) : q_call 96 [.ref x0, .ref x1] σ = q_run 96 0 [(0, .ref x0), (1, .ref x1)] [] σ := q_is (As := [.ref x1]) rfl h rfl rfl
theorem k_97 {x0 : Nat}  {σ : qH} {fs : List Value} (h : σ.1 x0 = some (.inl (6, fs))) : q_call 97 [.ref x0] σ = q_run 97 0 [(0, .ref x0)] [] σ := q_is (As := []) rfl h rfl rfl
theorem k_98 {x0 : Nat}  {σ : qH} {fs : List Value} (h : σ.1 x0 = some (.inl (7, fs))) : q_call 98 [.ref x0] σ = q_run 98 0 [(0, .ref x0)] [] σ := q_is (As := []) rfl h rfl rfl
theorem k_99 (x0 : Nat) (x1 : Int64) (σ : qH) : q_call 99 [.ref x0, .long x1] σ = q_run 99 0 [(0, .ref x0), (1, .long x1)] [] σ := (q_call_eq 99 [.ref x0, .long x1] σ).trans rfl
theorem k_100 {x0 : Nat} {x1 : Int32} {x2 : Int32} {σ : qH} {fs : List Value} (h : σ.1 x0 = some (.inl (5, fs))) : q_call 100 [.ref x0, .int x1, .int x2] σ = q_run 100 0 [(0, .ref x0), (1, .int x1), (2, .int x2)] [] σ := q_is (As := [.int x1, .int x2]) rfl h rfl rfl
theorem k_101 {x0 : Nat} {x1 : Int32} {x2 : Int32} {x3 : Int32} {σ : qH} {fs : List Value} (h : σ.1 x0 = some (.inl (5, fs))) : q_call 101 [.ref x0, .int x1, .int x2, .int x3] σ = q_run 101 0 [(0, .ref x0), (1, .int x1), (2, .int x2), (3, .int x3)] [] σ := q_is (As := [.int x1, .int x2, .int x3]) rfl h rfl rfl
theorem k_102 {x0 : Nat} {x1 : Nat} {x2 : Int32} {x3 : Int32} {σ : qH} {fs : List Value} (h : σ.1 x0 = some (.inl (5, fs))) : q_call 102 [.ref x0, .ref x1, .int x2, .int x3] σ = q_run 102 0 [(0, .ref x0), (1, .ref x1), (2, .int x2), (3, .int x3)] [] σ := q_is (As := [.ref x1, .int x2, .int x3]) rfl h rfl rfl
theorem k_103 {x0 : Nat} {x1 : Nat} {x2 : Nat} {σ : qH} {fs : List Value} (h : σ.1 x0 = some (.inl (5, fs))) : q_call 103 [.ref x0, .ref x1, .ref x2] σ = q_run 103 0 [(0, .ref x0), (1, .ref x1), (2, .ref x2)] [] σ := q_is (As := [.ref x1, .ref x2]) rfl h rfl rfl
theorem k_104 {x0 : Nat} {x1 : Int32} {σ : qH} {fs : List Value} (h : σ.1 x0 = some (.inl (6, fs))) : q_call 104 [.ref x0, .int x1] σ = q_run 104 0 [(0, .ref x0), (1, .int x1)] [] σ := q_is (As := [.int x1]) rfl h rfl rfl
theorem k_105 {x0 : Nat}  {σ : qH} {fs : List Value} (h : σ.1 x0 = some (.inl (7, fs))) : q_call 105 [.ref x0] σ = q_run 105 0 [(0, .ref x0)] [] σ := q_is (As := []) rfl h rfl rfl
theorem k_106 (x0 : Nat) (x1 : Int32) (σ : qH) : q_call 106 [.ref x0, .int x1] σ = q_run 106 0 [(0, .ref x0), (1, .int x1)] [] σ := (q_call_eq 106 [.ref x0, .int x1] σ).trans rfl
theorem k_107 {x0 : Nat} {x1 : Int32} {σ : qH} {fs : List Value} (h : σ.1 x0 = some (.inl (7, fs))) : q_call 107 [.ref x0, .int x1] σ = q_run 107 0 [(0, .ref x0), (1, .int x1)] [] σ := q_is (As := [.int x1]) rfl h rfl rfl
theorem k_108 {x0 : Nat}  {σ : qH} {fs : List Value} (h : σ.1 x0 = some (.inl (7, fs))) : q_call 108 [.ref x0] σ = q_run 108 0 [(0, .ref x0)] [] σ := q_is (As := []) rfl h rfl rfl
theorem k_109 {x0 : Nat} {x1 : Int32} {σ : qH} {fs : List Value} (h : σ.1 x0 = some (.inl (7, fs))) : q_call 109 [.ref x0, .int x1] σ = q_run 109 0 [(0, .ref x0), (1, .int x1)] [] σ := q_is (As := [.int x1]) rfl h rfl rfl
theorem k_110 {x0 : Nat} {x1 : Int32} {σ : qH} {fs : List Value} (h : σ.1 x0 = some (.inl (6, fs))) : q_call 110 [.ref x0, .int x1] σ = q_run 110 0 [(0, .ref x0), (1, .int x1)] [] σ := q_is (As := [.int x1]) rfl h rfl rfl
theorem k_111 {x0 : Nat}  {σ : qH} {fs : List Value} (h : σ.1 x0 = some (.inl (6, fs))) : q_call 111 [.ref x0] σ = q_run 111 0 [(0, .ref x0)] [] σ := q_is (As := []) rfl h rfl rfl
theorem k_112 {x0 : Nat}  {σ : qH} {fs : List Value} (h : σ.1 x0 = some (.inl (7, fs))) : q_call 112 [.ref x0] σ = q_run 112 0 [(0, .ref x0)] [] σ := q_is (As := []) rfl h rfl rfl
theorem k_113 {x0 : Nat} {x1 : Int32} {x2 : Int32} {σ : qH} {fs : List Value} (h : σ.1 x0 = some (.inl (3, fs))) : q_call 113 [.ref x0, .int x1, .int x2] σ = q_run 113 0 [(0, .ref x0), (1, .int x1), (2, .int x2)] [] σ := q_is (As := [.int x1, .int x2]) rfl h rfl rfl
theorem k_114 {x0 : Nat} {x1 : Int32} {x2 : Int32} {x3 : Int32} {σ : qH} {fs : List Value} (h : σ.1 x0 = some (.inl (3, fs))) : q_call 114 [.ref x0, .int x1, .int x2, .int x3] σ = q_run 114 0 [(0, .ref x0), (1, .int x1), (2, .int x2), (3, .int x3)] [] σ := q_is (As := [.int x1, .int x2, .int x3]) rfl h rfl rfl
theorem k_115 (x0 : Nat) (x1 : Int32) (x2 : Int32) (x3 : Int32) (σ : qH) : q_call 115 [.ref x0, .int x1, .int x2, .int x3] σ = q_run 115 0 [(0, .ref x0), (1, .int x1), (2, .int x2), (3, .int x3)] [] σ := (q_call_eq 115 [.ref x0, .int x1, .int x2, .int x3] σ).trans rfl
theorem k_116 (x0 : Nat) (x1 : Int32) (x2 : Int32) (x3 : Int32) (σ : qH) : q_call 116 [.ref x0, .int x1, .int x2, .int x3] σ = q_run 116 0 [(0, .ref x0), (1, .int x1), (2, .int x2), (3, .int x3)] [] σ := (q_call_eq 116 [.ref x0, .int x1, .int x2, .int x3] σ).trans rfl
theorem k_117 (x0 : Nat) (x1 : Int32) (x2 : Int32) (x3 : Int32) (σ : qH) : q_call 117 [.ref x0, .int x1, .int x2, .int x3] σ = q_run 117 0 [(0, .ref x0), (1, .int x1), (2, .int x2), (3, .int x3)] [] σ := (q_call_eq 117 [.ref x0, .int x1, .int x2, .int x3] σ).trans rfl
theorem k_118 (x0 : Nat) (x1 : Int32) (x2 : Int32) (x3 : Int32) (σ : qH) : q_call 118 [.ref x0, .int x1, .int x2, .int x3] σ = q_run 118 0 [(0, .ref x0), (1, .int x1), (2, .int x2), (3, .int x3)] [] σ := (q_call_eq 118 [.ref x0, .int x1, .int x2, .int x3] σ).trans rfl
theorem k_119 (x0 : Nat) (x1 : Int32) (x2 : Int32) (x3 : Int32) (σ : qH) : q_call 119 [.ref x0, .int x1, .int x2, .int x3] σ = q_run 119 0 [(0, .ref x0), (1, .int x1), (2, .int x2), (3, .int x3)] [] σ := (q_call_eq 119 [.ref x0, .int x1, .int x2, .int x3] σ).trans rfl
theorem k_120 (x0 : Nat) (x1 : Int32) (x2 : Int32) (x3 : Int32) (σ : qH) : q_call 120 [.ref x0, .int x1, .int x2, .int x3] σ = q_run 120 0 [(0, .ref x0), (1, .int x1), (2, .int x2), (3, .int x3)] [] σ := (q_call_eq 120 [.ref x0, .int x1, .int x2, .int x3] σ).trans rfl
theorem k_121 {x0 : Nat} {x1 : Int32} {σ : qH} {fs : List Value} (h : σ.1 x0 = some (.inl (6, fs))) : q_call 121 [.ref x0, .int x1] σ = q_run 121 0 [(0, .ref x0), (1, .int x1)] [] σ := q_is (As := [.int x1]) rfl h rfl rfl
theorem k_122 {x0 : Nat} {x1 : Int32} {σ : qH} {fs : List Value} (h : σ.1 x0 = some (.inl (7, fs))) : q_call 122 [.ref x0, .int x1] σ = q_run 122 0 [(0, .ref x0), (1, .int x1)] [] σ := q_is (As := [.int x1]) rfl h rfl rfl
theorem k_123 (x0 : Int32) (x1 : Int32) (σ : qH) : q_call 123 [.int x0, .int x1] σ = q_run 123 0 [(0, .int x0), (1, .int x1)] [] σ := (q_call_eq 123 [.int x0, .int x1] σ).trans rfl
theorem k_124 (x0 : Int32) (x1 : Int32) (σ : qH) : q_call 124 [.int x0, .int x1] σ = q_run 124 0 [(0, .int x0), (1, .int x1)] [] σ := (q_call_eq 124 [.int x0, .int x1] σ).trans rfl
theorem k_125 {x0 : Nat} {x1 : Int32} {x2 : Int32} {x3 : Int32} {σ : qH} {fs : List Value} (h : σ.1 x0 = some (.inl (6, fs))) : q_call 125 [.ref x0, .int x1, .int x2, .int x3] σ = q_run 125 0 [(0, .ref x0), (1, .int x1), (2, .int x2), (3, .int x3)] [] σ := q_is (As := [.int x1, .int x2, .int x3]) rfl h rfl rfl
theorem k_126 {x0 : Nat} {x1 : Int32} {x2 : Int32} {x3 : Int32} {σ : qH} {fs : List Value} (h : σ.1 x0 = some (.inl (7, fs))) : q_call 126 [.ref x0, .int x1, .int x2, .int x3] σ = q_run 126 0 [(0, .ref x0), (1, .int x1), (2, .int x2), (3, .int x3)] [] σ := q_is (As := [.int x1, .int x2, .int x3]) rfl h rfl rfl
theorem k_127 {x0 : Nat} {x1 : Int32} {x2 : Int32} {σ : qH} {fs : List Value} (h : σ.1 x0 = some (.inl (1, fs))) : q_call 127 [.ref x0, .int x1, .int x2] σ = q_run 127 0 [(0, .ref x0), (1, .int x1), (2, .int x2)] [] σ := q_is (As := [.int x1, .int x2]) rfl h rfl rfl
theorem k_128 {x0 : Nat} {x1 : Int32} {x2 : Int32} {σ : qH} {fs : List Value} (h : σ.1 x0 = some (.inl (6, fs))) : q_call 128 [.ref x0, .int x1, .int x2] σ = q_run 128 0 [(0, .ref x0), (1, .int x1), (2, .int x2)] [] σ := q_is (As := [.int x1, .int x2]) rfl h rfl rfl
theorem k_129 {x0 : Nat} {x1 : Int32} {x2 : Int32} {σ : qH} {fs : List Value} (h : σ.1 x0 = some (.inl (7, fs))) : q_call 129 [.ref x0, .int x1, .int x2] σ = q_run 129 0 [(0, .ref x0), (1, .int x1), (2, .int x2)] [] σ := q_is (As := [.int x1, .int x2]) rfl h rfl rfl
theorem k_130 {x0 : Nat}  {σ : qH} {fs : List Value} (h : σ.1 x0 = some (.inl (6, fs))) : q_call 130 [.ref x0] σ = q_run 130 0 [(0, .ref x0)] [] σ := q_is (As := []) rfl h rfl rfl
theorem k_131 {x0 : Nat}  {σ : qH} {fs : List Value} (h : σ.1 x0 = some (.inl (7, fs))) : q_call 131 [.ref x0] σ = q_run 131 0 [(0, .ref x0)] [] σ := q_is (As := []) rfl h rfl rfl
theorem k_132 (x0 : Nat) (x1 : Int32) (σ : qH) : q_call 132 [.ref x0, .int x1] σ = q_run 132 0 [(0, .ref x0), (1, .int x1)] [] σ := (q_call_eq 132 [.ref x0, .int x1] σ).trans rfl
theorem k_133 {x0 : Nat} {x1 : Nat} {x2 : Int32} {σ : qH} {fs : List Value} (h : σ.1 x0 = some (.inl (1, fs))) : q_call 133 [.ref x0, .ref x1, .int x2] σ = q_run 133 0 [(0, .ref x0), (1, .ref x1), (2, .int x2)] [] σ := q_is (As := [.ref x1, .int x2]) rfl h rfl rfl
theorem k_134 {x0 : Nat} {x1 : Nat} {x2 : Int32} {σ : qH} {fs : List Value} (h : σ.1 x0 = some (.inl (1, fs))) : q_call 134 [.ref x0, .ref x1, .int x2] σ = q_run 134 0 [(0, .ref x0), (1, .ref x1), (2, .int x2)] [] σ := q_is (As := [.ref x1, .int x2]) rfl h rfl rfl
theorem k_135 {x0 : Nat} {x1 : Nat} {σ : qH} {fs : List Value} (h : σ.1 x0 = some (.inl (1, fs))) : q_call 135 [.ref x0, .ref x1] σ = q_run 135 0 [(0, .ref x0), (1, .ref x1)] [] σ := q_is (As := [.ref x1]) rfl h rfl rfl
theorem k_136 {x0 : Nat} {x1 : Int32} {σ : qH} {fs : List Value} (h : σ.1 x0 = some (.inl (6, fs))) : q_call 136 [.ref x0, .int x1] σ = q_run 136 0 [(0, .ref x0), (1, .int x1)] [] σ := q_is (As := [.int x1]) rfl h rfl rfl
theorem k_137 {x0 : Nat} {x1 : Int32} {σ : qH} {fs : List Value} (h : σ.1 x0 = some (.inl (7, fs))) : q_call 137 [.ref x0, .int x1] σ = q_run 137 0 [(0, .ref x0), (1, .int x1)] [] σ := q_is (As := [.int x1]) rfl h rfl rfl
theorem k_138 {x0 : Nat} {x1 : Int32} {σ : qH} {fs : List Value} (h : σ.1 x0 = some (.inl (7, fs))) : q_call 138 [.ref x0, .int x1] σ = q_run 138 0 [(0, .ref x0), (1, .int x1)] [] σ := q_is (As := [.int x1]) rfl h rfl rfl
theorem k_139 {x0 : Nat} {x1 : Int32} {σ : qH} {fs : List Value} (h : σ.1 x0 = some (.inl (7, fs))) : q_call 139 [.ref x0, .int x1] σ = q_run 139 0 [(0, .ref x0), (1, .int x1)] [] σ := q_is (As := [.int x1]) rfl h rfl rfl
theorem k_140 {x0 : Nat} {x1 : Int32} {σ : qH} {fs : List Value} (h : σ.1 x0 = some (.inl (1, fs))) : q_call 140 [.ref x0, .int x1] σ = q_run 140 0 [(0, .ref x0), (1, .int x1)] [] σ := q_is (As := [.int x1]) rfl h rfl rfl
theorem k_141 {x0 : Nat}  {σ : qH} {fs : List Value} (h : σ.1 x0 = some (.inl (6, fs))) : q_call 141 [.ref x0] σ = q_run 141 0 [(0, .ref x0)] [] σ := q_is (As := []) rfl h rfl rfl
theorem k_142 {x0 : Nat}  {σ : qH} {fs : List Value} (h : σ.1 x0 = some (.inl (7, fs))) : q_call 142 [.ref x0] σ = q_run 142 0 [(0, .ref x0)] [] σ := q_is (As := []) rfl h rfl rfl
theorem k_143 {x0 : Nat} {x1 : Int32} {σ : qH} {fs : List Value} (h : σ.1 x0 = some (.inl (6, fs))) : q_call 143 [.ref x0, .int x1] σ = q_run 143 0 [(0, .ref x0), (1, .int x1)] [] σ := q_is (As := [.int x1]) rfl h rfl rfl
theorem k_144 {x0 : Nat} {x1 : Int32} {σ : qH} {fs : List Value} (h : σ.1 x0 = some (.inl (6, fs))) : q_call 144 [.ref x0, .int x1] σ = q_run 144 0 [(0, .ref x0), (1, .int x1)] [] σ := q_is (As := [.int x1]) rfl h rfl rfl
theorem k_145 {x0 : Nat} {x1 : Int32} {σ : qH} {fs : List Value} (h : σ.1 x0 = some (.inl (6, fs))) : q_call 145 [.ref x0, .int x1] σ = q_run 145 0 [(0, .ref x0), (1, .int x1)] [] σ := q_is (As := [.int x1]) rfl h rfl rfl
theorem k_146 {x0 : Nat} {x1 : Int32} {σ : qH} {fs : List Value} (h : σ.1 x0 = some (.inl (6, fs))) : q_call 146 [.ref x0, .int x1] σ = q_run 146 0 [(0, .ref x0), (1, .int x1)] [] σ := q_is (As := [.int x1]) rfl h rfl rfl
theorem k_147 {x0 : Nat} {x1 : Int32} {σ : qH} {fs : List Value} (h : σ.1 x0 = some (.inl (6, fs))) : q_call 147 [.ref x0, .int x1] σ = q_run 147 0 [(0, .ref x0), (1, .int x1)] [] σ := q_is (As := [.int x1]) rfl h rfl rfl
theorem k_148 {x0 : Nat} {x1 : Int32} {σ : qH} {fs : List Value} (h : σ.1 x0 = some (.inl (6, fs))) : q_call 148 [.ref x0, .int x1] σ = q_run 148 0 [(0, .ref x0), (1, .int x1)] [] σ := q_is (As := [.int x1]) rfl h rfl rfl
theorem k_149 {x0 : Nat} {x1 : Int32} {x2 : Int32} {σ : qH} {fs : List Value} (h : σ.1 x0 = some (.inl (6, fs))) : q_call 149 [.ref x0, .int x1, .int x2] σ = q_run 149 0 [(0, .ref x0), (1, .int x1), (2, .int x2)] [] σ := q_is (As := [.int x1, .int x2]) rfl h rfl rfl
theorem k_150 {x0 : Nat} {x1 : Int32} {x2 : Int32} {σ : qH} {fs : List Value} (h : σ.1 x0 = some (.inl (7, fs))) : q_call 150 [.ref x0, .int x1, .int x2] σ = q_run 150 0 [(0, .ref x0), (1, .int x1), (2, .int x2)] [] σ := q_is (As := [.int x1, .int x2]) rfl h rfl rfl
theorem k_151 {x0 : Nat} {x1 : Int32} {σ : qH} {fs : List Value} (h : σ.1 x0 = some (.inl (6, fs))) : q_call 151 [.ref x0, .int x1] σ = q_run 151 0 [(0, .ref x0), (1, .int x1)] [] σ := q_is (As := [.int x1]) rfl h rfl rfl
theorem k_152 {x0 : Nat} {x1 : Int32} {σ : qH} {fs : List Value} (h : σ.1 x0 = some (.inl (7, fs))) : q_call 152 [.ref x0, .int x1] σ = q_run 152 0 [(0, .ref x0), (1, .int x1)] [] σ := q_is (As := [.int x1]) rfl h rfl rfl
theorem k_153 {x0 : Nat} {x1 : Int32} {σ : qH} {fs : List Value} (h : σ.1 x0 = some (.inl (6, fs))) : q_call 153 [.ref x0, .int x1] σ = q_run 153 0 [(0, .ref x0), (1, .int x1)] [] σ := q_is (As := [.int x1]) rfl h rfl rfl
theorem k_154 {x0 : Nat} {x1 : Int32} {σ : qH} {fs : List Value} (h : σ.1 x0 = some (.inl (7, fs))) : q_call 154 [.ref x0, .int x1] σ = q_run 154 0 [(0, .ref x0), (1, .int x1)] [] σ := q_is (As := [.int x1]) rfl h rfl rfl
theorem k_155 {x0 : Nat} {x1 : Int32} {σ : qH} {fs : List Value} (h : σ.1 x0 = some (.inl (6, fs))) : q_call 155 [.ref x0, .int x1] σ = q_run 155 0 [(0, .ref x0), (1, .int x1)] [] σ := q_is (As := [.int x1]) rfl h rfl rfl
theorem k_156 {x0 : Nat} {x1 : Int32} {σ : qH} {fs : List Value} (h : σ.1 x0 = some (.inl (7, fs))) : q_call 156 [.ref x0, .int x1] σ = q_run 156 0 [(0, .ref x0), (1, .int x1)] [] σ := q_is (As := [.int x1]) rfl h rfl rfl
theorem k_157 {x0 : Nat}  {σ : qH} {fs : List Value} (h : σ.1 x0 = some (.inl (6, fs))) : q_call 157 [.ref x0] σ = q_run 157 0 [(0, .ref x0)] [] σ := q_is (As := []) rfl h rfl rfl
theorem k_158 {x0 : Nat}  {σ : qH} {fs : List Value} (h : σ.1 x0 = some (.inl (7, fs))) : q_call 158 [.ref x0] σ = q_run 158 0 [(0, .ref x0)] [] σ := q_is (As := []) rfl h rfl rfl
end
section
/-! ===== leaves: packed rows, bits, and the methods that only reckon ===== -/
def pkL (f : Nat → Nat) : Nat := f 0 + 256 * f 1 + 65536 * f 2 + 16777216 * f 3 + 4294967296 * f 4
def pkS (f : Nat → Nat) : Nat := 4096 * f 0 + 512 * f 1 + 64 * f 2 + 8 * f 3 + f 4
def up (f : Nat → Nat) (i v : Nat) : Nat → Nat := fun j => if j = i then v else f j
theorem up_s (f : Nat → Nat) (i v : Nat) : up f i v i = v := if_pos rfl
theorem up_n (f : Nat → Nat) {i j : Nat} (v : Nat) (h : j ≠ i) : up f i v j = f j := if_neg h
theorem i5 {i : Nat} (h : i < 5) : i = 0 ∨ i = 1 ∨ i = 2 ∨ i = 3 ∨ i = 4 := by omega
theorem pkL_lt {f : Nat → Nat} (hf : ∀ i, i < 5 → f i < 256) : pkL f < 1099511627776 := by
  have h0 := hf 0 (by decide); have h1 := hf 1 (by decide); have h2 := hf 2 (by decide); have h3 := hf 3 (by decide); have h4 := hf 4 (by decide)
  unfold pkL; omega
theorem pkS_lt {f : Nat → Nat} (hf : ∀ i, i < 5 → f i < 8) : pkS f < 32768 := by
  have h0 := hf 0 (by decide); have h1 := hf 1 (by decide); have h2 := hf 2 (by decide); have h3 := hf 3 (by decide); have h4 := hf 4 (by decide)
  unfold pkS; omega
theorem pkS_inj {f g : Nat → Nat} (hf : ∀ i, i < 5 → f i < 8) (hg : ∀ i, i < 5 → g i < 8) (h : pkS f = pkS g) : ∀ i, i < 5 → f i = g i := by
  have h0 := hf 0 (by decide); have h1 := hf 1 (by decide); have h2 := hf 2 (by decide); have h3 := hf 3 (by decide); have h4 := hf 4 (by decide)
  have g0 := hg 0 (by decide); have g1 := hg 1 (by decide); have g2 := hg 2 (by decide); have g3 := hg 3 (by decide); have g4 := hg 4 (by decide)
  unfold pkS at h
  intro i hi
  rcases i5 hi with rfl | rfl | rfl | rfl | rfl <;> omega
theorem pkL_congr {f g : Nat → Nat} (h : ∀ i, i < 5 → f i = g i) : pkL f = pkL g := by
  unfold pkL; rw [h 0 (by decide), h 1 (by decide), h 2 (by decide), h 3 (by decide), h 4 (by decide)]
theorem pkS_congr {f g : Nat → Nat} (h : ∀ i, i < 5 → f i = g i) : pkS f = pkS g := by
  unfold pkS; rw [h 0 (by decide), h 1 (by decide), h 2 (by decide), h 3 (by decide), h 4 (by decide)]
theorem c_lane {f : Nat → Nat} (hf : ∀ i, i < 5 → f i < 256) {i : Nat} (hi : i < 5) (σ : qH) : q_call 35 [.long (lN (pkL f)), .int (nI i)] σ = some (some (.int (nI (f i))), σ) := by
  rw [k_35, e_35_0]
  have h0 := hf 0 (by decide); have h1 := hf 1 (by decide); have h2 := hf 2 (by decide); have h3 := hf 3 (by decide); have h4 := hf 4 (by decide)
  have hlt := pkL_lt hf
  rw [pk_mul, wb_shr (by omega) (by omega), lN_i, n_and255]
  have e : pkL f / 2 ^ (8 * i) % 256 = f i := by
    unfold pkL
    rcases i5 hi with rfl | rfl | rfl | rfl | rfl <;> simp only [Nat.mul_zero, Nat.mul_one, Nat.reduceMul, Nat.reducePow] <;> omega
  rw [e]
theorem c_spot {f : Nat → Nat} (hf : ∀ i, i < 5 → f i < 8) {i : Nat} (hi : i < 5) (σ : qH) : q_call 49 [.int (nI (pkS f)), .int (nI i)] σ = some (some (.int (nI (f i))), σ) := by
  rw [k_49, e_49_0]
  have h0 := hf 0 (by decide); have h1 := hf 1 (by decide); have h2 := hf 2 (by decide); have h3 := hf 3 (by decide); have h4 := hf 4 (by decide)
  have hlt := pkS_lt hf
  rw [pk_sub (by omega), pk_mul, n_shr (by omega) (by omega), n_and7]
  have e : pkS f / 2 ^ (3 * (4 - i)) % 8 = f i := by
    unfold pkS
    rcases i5 hi with rfl | rfl | rfl | rfl | rfl <;> simp only [Nat.sub_zero, Nat.reduceSub, Nat.mul_zero, Nat.mul_one, Nat.reduceMul, Nat.reducePow] <;> omega
  rw [e]
theorem c_withSpot {f : Nat → Nat} (hf : ∀ i, i < 5 → f i < 8) {i v : Nat} (hi : i < 5) (hv : v < 8) (σ : qH) : q_call 37 [.int (nI (pkS f)), .int (nI i), .int (nI v)] σ = some (some (.int (nI (pkS (up f i v)))), σ) := by
  rw [k_37, e_37_0]
  have h0 := hf 0 (by decide); have h1 := hf 1 (by decide); have h2 := hf 2 (by decide); have h3 := hf 3 (by decide); have h4 := hf 4 (by decide)
  have hp : 2 ^ (3 * (4 - i)) ≤ 4096 := by rcases i5 hi with rfl | rfl | rfl | rfl | rfl <;> decide
  have e1 : 7 * 2 ^ (3 * (4 - i)) < 2 ^ 32 := by omega
  have e2 : v * 2 ^ (3 * (4 - i)) < 2 ^ 32 := by
    have : v * 2 ^ (3 * (4 - i)) ≤ 7 * 4096 := Nat.mul_le_mul (by omega) hp
    omega
  rw [pk_sub (by omega), pk_mul, n_and7, Nat.mod_eq_of_lt hv, n_shl (by omega) e1, n_shl (by omega) e2, n_not, n_or]
  congr 5
  have key : ∀ {hi' mid lo s : Nat}, mid < 8 → lo < 2 ^ s → 2 ^ (s + 3) * hi' + (2 ^ s * mid + lo) < 2 ^ 32 → (2 ^ (s + 3) * hi' + (2 ^ s * mid + lo)) &&& ((7 * 2 ^ s) ^^^ 4294967295) ||| v * 2 ^ s = 2 ^ (s + 3) * hi' + (2 ^ s * v + lo) := by
    intro hi' mid lo s hm hl hw
    have := n_clr (k := 3) (w := 32) hm hl hw
    rw [show (2 : Nat) ^ 3 - 1 = 7 from rfl, show (2 : Nat) ^ 32 - 1 = 4294967295 from rfl, Nat.mul_comm (2 ^ s) 7] at this
    rw [this, Nat.mul_comm v, n_put hv hl]
  unfold pkS
  rcases i5 hi with rfl | rfl | rfl | rfl | rfl <;> simp only [up, Nat.sub_zero, Nat.reduceSub, Nat.mul_zero, Nat.mul_one, Nat.reduceMul, Nat.reduceEqDiff, if_true, if_false, Nat.zero_ne_one, Nat.one_ne_zero, reduceIte]
  · have := key (hi' := 0) (mid := f 0) (lo := 512 * f 1 + 64 * f 2 + 8 * f 3 + f 4) (s := 12) h0 (by omega) (by omega)
    simp only [Nat.mul_zero, Nat.zero_add, Nat.reducePow, Nat.reduceMul, Nat.reduceAdd] at this ⊢
    rw [show 4096 * f 0 + 512 * f 1 + 64 * f 2 + 8 * f 3 + f 4 = 4096 * f 0 + (512 * f 1 + 64 * f 2 + 8 * f 3 + f 4) by omega, this]; omega
  · have := key (hi' := f 0) (mid := f 1) (lo := 64 * f 2 + 8 * f 3 + f 4) (s := 9) h1 (by omega) (by omega)
    simp only [Nat.reducePow, Nat.reduceMul, Nat.reduceAdd] at this ⊢
    rw [show 4096 * f 0 + 512 * f 1 + 64 * f 2 + 8 * f 3 + f 4 = 4096 * f 0 + (512 * f 1 + (64 * f 2 + 8 * f 3 + f 4)) by omega, this]; omega
  · have := key (hi' := 8 * f 0 + f 1) (mid := f 2) (lo := 8 * f 3 + f 4) (s := 6) h2 (by omega) (by omega)
    simp only [Nat.reducePow, Nat.reduceMul, Nat.reduceAdd] at this ⊢
    rw [show 4096 * f 0 + 512 * f 1 + 64 * f 2 + 8 * f 3 + f 4 = 512 * (8 * f 0 + f 1) + (64 * f 2 + (8 * f 3 + f 4)) by omega, this]; omega
  · have := key (hi' := 64 * f 0 + 8 * f 1 + f 2) (mid := f 3) (lo := f 4) (s := 3) h3 (by omega) (by omega)
    simp only [Nat.reducePow, Nat.reduceMul, Nat.reduceAdd] at this ⊢
    rw [show 4096 * f 0 + 512 * f 1 + 64 * f 2 + 8 * f 3 + f 4 = 64 * (64 * f 0 + 8 * f 1 + f 2) + (8 * f 3 + f 4) by omega, this]; omega
  · have := key (hi' := 512 * f 0 + 64 * f 1 + 8 * f 2 + f 3) (mid := f 4) (lo := 0) (s := 0) h4 (by omega) (by omega)
    simp only [Nat.reducePow, Nat.reduceMul, Nat.reduceAdd, Nat.pow_zero, Nat.one_mul, Nat.add_zero, Nat.mul_one, Nat.zero_add] at this ⊢
    rw [show 4096 * f 0 + 512 * f 1 + 64 * f 2 + 8 * f 3 + f 4 = 8 * (512 * f 0 + 64 * f 1 + 8 * f 2 + f 3) + f 4 by omega, this]; omega
end
section
/-! ===== more leaves; loops ===== -/
theorem q_for (Rn : Nat → Option qR) (n : Nat) (h : ∀ i, i < n → Rn i = Rn (i + 1)) : Rn 0 = Rn n := by
  induction n with
  | zero => rfl
  | succ n ih => rw [ih (fun i hi => h i (by omega)), h n (by omega)]
theorem l_and (a b : Nat) : lN a &&& lN b = lN (a &&& b) := by
  apply Int64.toBitVec_inj.1
  show BitVec.ofNat 64 a &&& BitVec.ofNat 64 b = BitVec.ofNat 64 (a &&& b)
  apply BitVec.eq_of_getLsbD_eq
  intro i hi
  simp [hi]
theorem l_or (a b : Nat) : lN a ||| lN b = lN (a ||| b) := by
  apply Int64.toBitVec_inj.1
  show BitVec.ofNat 64 a ||| BitVec.ofNat 64 b = BitVec.ofNat 64 (a ||| b)
  apply BitVec.eq_of_getLsbD_eq
  intro i hi
  simp [hi]
theorem l_xor (a b : Nat) : lN a ^^^ lN b = lN (a ^^^ b) := by
  apply Int64.toBitVec_inj.1
  show BitVec.ofNat 64 a ^^^ BitVec.ofNat 64 b = BitVec.ofNat 64 (a ^^^ b)
  apply BitVec.eq_of_getLsbD_eq
  intro i hi
  simp [hi]
theorem l_m1 : (-1 : Int64) = lN 18446744073709551615 := by decide +kernel
theorem l_not (a b : Nat) : lN a &&& (lN b ^^^ (-1)) = lN (a &&& (b ^^^ 18446744073709551615)) := by rw [l_m1, l_xor, l_and]
theorem c_withLane {f : Nat → Nat} (hf : ∀ i, i < 5 → f i < 256) {i v : Nat} (hi : i < 5) (hv : v < 256) (σ : qH) : q_call 33 [.long (lN (pkL f)), .int (nI i), .int (nI v)] σ = some (some (.long (lN (pkL (up f i v)))), σ) := by
  rw [k_33, e_33_0]
  have h0 := hf 0 (by decide); have h1 := hf 1 (by decide); have h2 := hf 2 (by decide); have h3 := hf 3 (by decide); have h4 := hf 4 (by decide)
  rw [pk_mul, n_and255, Nat.mod_eq_of_lt hv, nI_l (n := v) (by omega), wb_shl 255 (k := 8 * i) (by omega), wb_shl v (k := 8 * i) (by omega), l_not, l_or]
  congr 5
  have key : ∀ {hi' mid lo s : Nat}, mid < 256 → lo < 2 ^ s → 2 ^ (s + 8) * hi' + (2 ^ s * mid + lo) < 2 ^ 64 → (2 ^ (s + 8) * hi' + (2 ^ s * mid + lo)) &&& ((255 * 2 ^ s) ^^^ 18446744073709551615) ||| v * 2 ^ s = 2 ^ (s + 8) * hi' + (2 ^ s * v + lo) := by
    intro hi' mid lo s hm hl hw
    have := n_clr (k := 8) (w := 64) hm hl hw
    rw [show (2 : Nat) ^ 8 - 1 = 255 from rfl, show (2 : Nat) ^ 64 - 1 = 18446744073709551615 from rfl, Nat.mul_comm (2 ^ s) 255] at this
    rw [this, Nat.mul_comm v, n_put hv hl]
  unfold pkL
  rcases i5 hi with rfl | rfl | rfl | rfl | rfl <;> simp only [up, Nat.mul_zero, Nat.mul_one, Nat.reduceMul, Nat.reduceEqDiff, if_true, if_false, Nat.zero_ne_one, Nat.one_ne_zero, reduceIte]
  · have := key (hi' := f 1 + 256 * f 2 + 65536 * f 3 + 16777216 * f 4) (mid := f 0) (lo := 0) (s := 0) h0 (by omega) (by omega)
    simp only [Nat.reducePow, Nat.reduceMul, Nat.reduceAdd, Nat.pow_zero, Nat.one_mul, Nat.add_zero, Nat.mul_one, Nat.zero_add] at this ⊢
    rw [show f 0 + 256 * f 1 + 65536 * f 2 + 16777216 * f 3 + 4294967296 * f 4 = 256 * (f 1 + 256 * f 2 + 65536 * f 3 + 16777216 * f 4) + f 0 by omega, this]; omega
  · have := key (hi' := f 2 + 256 * f 3 + 65536 * f 4) (mid := f 1) (lo := f 0) (s := 8) h1 (by omega) (by omega)
    simp only [Nat.reducePow, Nat.reduceMul, Nat.reduceAdd] at this ⊢
    rw [show f 0 + 256 * f 1 + 65536 * f 2 + 16777216 * f 3 + 4294967296 * f 4 = 65536 * (f 2 + 256 * f 3 + 65536 * f 4) + (256 * f 1 + f 0) by omega, this]; omega
  · have := key (hi' := f 3 + 256 * f 4) (mid := f 2) (lo := f 0 + 256 * f 1) (s := 16) h2 (by omega) (by omega)
    simp only [Nat.reducePow, Nat.reduceMul, Nat.reduceAdd] at this ⊢
    rw [show f 0 + 256 * f 1 + 65536 * f 2 + 16777216 * f 3 + 4294967296 * f 4 = 16777216 * (f 3 + 256 * f 4) + (65536 * f 2 + (f 0 + 256 * f 1)) by omega, this]; omega
  · have := key (hi' := f 4) (mid := f 3) (lo := f 0 + 256 * f 1 + 65536 * f 2) (s := 24) h3 (by omega) (by omega)
    simp only [Nat.reducePow, Nat.reduceMul, Nat.reduceAdd] at this ⊢
    rw [show f 0 + 256 * f 1 + 65536 * f 2 + 16777216 * f 3 + 4294967296 * f 4 = 4294967296 * f 4 + (16777216 * f 3 + (f 0 + 256 * f 1 + 65536 * f 2)) by omega, this]; omega
  · have := key (hi' := 0) (mid := f 4) (lo := f 0 + 256 * f 1 + 65536 * f 2 + 16777216 * f 3) (s := 32) h4 (by omega) (by omega)
    simp only [Nat.mul_zero, Nat.zero_add, Nat.reducePow, Nat.reduceMul, Nat.reduceAdd] at this ⊢
    rw [show f 0 + 256 * f 1 + 65536 * f 2 + 16777216 * f 3 + 4294967296 * f 4 = 4294967296 * f 4 + (f 0 + 256 * f 1 + 65536 * f 2 + 16777216 * f 3) by omega, this]; omega
theorem n_bit {a i : Nat} (ha : a < 2 ^ 31) (hi : i < 31) : (nI a >>> (nI i &&& 31)) &&& nI 1 = nI (a.testBit i).toNat := by
  rw [n_shr (by omega) ha, n_and1]
  congr 1
  rw [Nat.testBit_eq_decide_div_mod_eq]
  have : a / 2 ^ i % 2 < 2 := Nat.mod_lt _ (by decide)
  by_cases h : a / 2 ^ i % 2 = 1
  · rw [h]; rfl
  · rw [show a / 2 ^ i % 2 = 0 by omega]; rfl
theorem n_b1 (b : Bool) : (nI b.toNat = nI 1) ↔ b = true := by cases b <;> decide
theorem n_b0 (b : Bool) : (nI b.toNat = nI 0) ↔ b = false := by cases b <;> decide
theorem c_has {a i : Nat} (ha : a < 2 ^ 31) (hi : i < 31) (σ : qH) : q_call 52 [.int (nI a), .int (nI i)] σ = some (some (.int (nI (a.testBit i).toNat)), σ) := by
  rw [k_52, e_52_0]
  rw [n_bit ha hi]
  cases a.testBit i <;> rfl
theorem m_has {a i : Nat} (ha : a < 2 ^ 31) (hi : i < 31) (σ : qH) : q_call 64 [.int (nI a), .int (nI i)] σ = some (some (.int (nI (a.testBit i).toNat)), σ) := by
  rw [k_64, e_64_0]
  rw [n_bit ha hi]
  cases a.testBit i <;> rfl
/-- the bits i < n of which c says so; how many they are -/
def bits (c : Nat → Bool) : Nat → Nat
  | 0 => 0
  | n + 1 => bits c n + (c n).toNat * 2 ^ n
def cnt (c : Nat → Bool) : Nat → Nat
  | 0 => 0
  | n + 1 => cnt c n + (c n).toNat
def sumN (f : Nat → Nat) : Nat → Nat
  | 0 => 0
  | n + 1 => sumN f n + f n
theorem toNat_le1 (b : Bool) : b.toNat ≤ 1 := by cases b <;> decide
theorem bits_lt (c : Nat → Bool) : ∀ n, bits c n < 2 ^ n
  | 0 => Nat.zero_lt_one
  | n + 1 => by
    have := bits_lt c n
    have h1 : (c n).toNat * 2 ^ n ≤ 1 * 2 ^ n := Nat.mul_le_mul_right _ (toNat_le1 _)
    unfold bits
    rw [Nat.pow_succ]
    omega
theorem bits_or (c : Nat → Bool) (n : Nat) : bits c n ||| 2 ^ n = bits c n + 2 ^ n := by
  have := Nat.two_pow_add_eq_or_of_lt (bits_lt c n) 1
  rw [Nat.mul_one] at this
  rw [Nat.or_comm, ← this, Nat.add_comm]
theorem bits_t {c : Nat → Bool} {n : Nat} (h : c n = true) : bits c n ||| 2 ^ n = bits c (n + 1) := by
  show _ = bits c n + (c n).toNat * 2 ^ n
  rw [bits_or, h]; simp
theorem bits_f {c : Nat → Bool} {n : Nat} (h : c n = false) : bits c n = bits c (n + 1) := by
  show _ = bits c n + (c n).toNat * 2 ^ n
  rw [h]; simp
theorem bits_tb (c : Nat → Bool) : ∀ n i, (bits c n).testBit i = (decide (i < n) && c i)
  | 0, i => by simp [bits]
  | n + 1, i => by
    have ih := bits_tb c n i
    have e : bits c (n + 1) = bits c n + (c n).toNat * 2 ^ n := rfl
    cases hc : c n with
    | false =>
      rw [e, hc, show (false.toNat * 2 ^ n) = 0 by simp, Nat.add_zero, ih]
      by_cases h : i = n
      · subst h; simp [hc]
      · have : (i < n + 1) ↔ i < n := by omega
        simp [this]
    | true =>
      rw [e, hc, show (true.toNat * 2 ^ n) = 2 ^ n by simp, ← bits_or, Nat.testBit_or, ih, Nat.testBit_two_pow]
      by_cases h : i = n
      · subst h; simp [hc]
      · have : (i < n + 1) ↔ i < n := by omega
        have h2 : ¬ n = i := fun q => h q.symm
        simp [this, h2]
theorem bits_congr {c d : Nat → Bool} : ∀ {n : Nat}, (∀ i, i < n → c i = d i) → bits c n = bits d n
  | 0, _ => rfl
  | n + 1, h => by
    show bits c n + (c n).toNat * 2 ^ n = bits d n + (d n).toNat * 2 ^ n
    rw [bits_congr fun i hi => h i (by omega), h n (by omega)]
theorem cnt_congr {c d : Nat → Bool} : ∀ {n : Nat}, (∀ i, i < n → c i = d i) → cnt c n = cnt d n
  | 0, _ => rfl
  | n + 1, h => by
    show cnt c n + (c n).toNat = cnt d n + (d n).toNat
    rw [cnt_congr fun i hi => h i (by omega), h n (by omega)]
theorem cnt_le (c : Nat → Bool) : ∀ n, cnt c n ≤ n
  | 0 => Nat.le_refl _
  | n + 1 => by have := cnt_le c n; have := toNat_le1 (c n); unfold cnt; omega
theorem sumN_congr {f g : Nat → Nat} : ∀ {n : Nat}, (∀ i, i < n → f i = g i) → sumN f n = sumN g n
  | 0, _ => rfl
  | n + 1, h => by
    show sumN f n + f n = sumN g n + g n
    rw [sumN_congr fun i hi => h i (by omega), h n (by omega)]
/-- a set's size: bits below 5 -/
def ones (a : Nat) : Nat := cnt (fun i => a.testBit i) 5
theorem n_bits {a : Nat} (h : a < 32) : nI (ones a) = nI (ones a) := rfl
theorem m_ones {a : Nat} (ha : a < 2 ^ 31) (σ : qH) : q_call 65 [.int (nI a)] σ = some (some (.int (nI (ones a))), σ) := by
  rw [k_65, e_65_0]
  refine (q_for (fun i => q_run 65 4 [(0, .int (nI a)), (1, .int (nI (cnt (fun i => a.testBit i) i))), (2, .int (nI i))] [] σ) 5 (fun i hi => ?_)).trans ?_
  · try dsimp only
    rw [e_65_4, if_neg (nI_ge hi (by omega)), n_bit ha (by omega), nI_add, nI_add]
    rfl
  · try dsimp only
    rw [e_65_4, if_pos (nI_le (Nat.le_refl 5) (by decide))]
    rfl
set_option maxRecDepth 100000 in
theorem c_bitCount0 : ∀ a : Fin 32, q_call 88 [.int (nI a.val)] = fun σ => some (some (.int (nI (ones a.val))), σ) := by
  intro a
  funext σ
  rw [k_88, e_88_0]
  congr 3
  revert a
  decide +kernel
theorem c_bitCount {a : Nat} (ha : a < 32) (σ : qH) : q_call 88 [.int (nI a)] σ = some (some (.int (nI (ones a))), σ) := congrFun (c_bitCount0 ⟨a, ha⟩) σ
theorem c_sum {f : Nat → Nat} (hf : ∀ i, i < 5 → f i < 256) (σ : qH) : q_call 76 [.long (lN (pkL f))] σ = some (some (.int (nI (sumN f 5))), σ) := by
  rw [k_76, e_76_0]
  refine (q_for (fun i => q_run 76 4 [(0, .long (lN (pkL f))), (2, .int (nI (sumN f i))), (3, .int (nI i))] [] σ) 5 (fun i hi => ?_)).trans ?_
  · try dsimp only
    rw [e_76_4, if_neg (nI_ge hi (by omega)), c_lane hf hi]
    show q_run 76 4 [(0, .long (lN (pkL f))), (2, .int (nI (sumN f i) + nI (f i))), (3, .int (nI i + nI 1))] [] σ = _
    rw [nI_add, nI_add]
    rfl
  · try dsimp only
    rw [e_76_4, if_pos (nI_le (Nat.le_refl 5) (by decide))]
/-- the lowest bit of a set -/
def low (a : Nat) : Nat := if a.testBit 0 then 0 else if a.testBit 1 then 1 else if a.testBit 2 then 2 else if a.testBit 3 then 3 else 4
theorem c_lowest {a : Nat} (ha : a < 32) (h0 : a ≠ 0) (σ : qH) : q_call 56 [.int (nI a)] σ = some (some (.int (nI (low a))), σ) := by
  rw [k_56, e_56_0]
  have step : ∀ i, i < 5 → q_run 56 2 [(0, .int (nI a)), (1, .int (nI i))] [] σ = if a.testBit i then some (some (.int (nI i)), σ) else q_run 56 2 [(0, .int (nI a)), (1, .int (nI (i + 1)))] [] σ := by
    intro i hi
    rw [e_56_2, if_neg (nI_ge hi (by omega)), c_has (by omega) (by omega)]
    show (if nI (a.testBit i).toNat = nI 0 then q_run 56 2 [(0, .int (nI a)), (1, .int (nI i + nI 1))] [] σ else _) = _
    rw [nI_add]
    cases a.testBit i <;> rfl
  show q_run 56 2 [(0, .int (nI a)), (1, .int (nI 0))] [] σ = _
  rw [step 0 (by decide), step 1 (by decide), step 2 (by decide), step 3 (by decide), step 4 (by decide)]
  unfold low
  have h4 : a.testBit 0 = false → a.testBit 1 = false → a.testBit 2 = false → a.testBit 3 = false → a.testBit 4 = true := by
    intro b0 b1 b2 b3
    rw [Nat.testBit_eq_decide_div_mod_eq] at *
    simp only [decide_eq_false_iff_not, decide_eq_true_eq, Nat.reducePow] at *
    omega
  cases b0 : a.testBit 0 <;> cases b1 : a.testBit 1 <;> cases b2 : a.testBit 2 <;> cases b3 : a.testBit 3 <;> simp_all
-- in
theorem m_in (x lo hi : Int32) (σ : qH) : q_call 8 [.int x, .int lo, .int hi] σ = some (some (.int (nI (decide (lo ≤ x ∧ x ≤ hi)).toNat)), σ) := by
  rw [k_8, e_8_0]
  rw [e_8_14]
  by_cases h1 : x < lo
  · rw [if_pos h1, decide_eq_false (fun h => absurd h1 (Int32.not_lt.mpr h.1))]; rfl
  · rw [if_neg h1]
    by_cases h2 : hi < x
    · rw [if_pos h2, decide_eq_false (fun h => absurd h2 (Int32.not_lt.mpr h.2))]; rfl
    · rw [if_neg h2, decide_eq_true ⟨Int32.not_lt.mp h1, Int32.not_lt.mp h2⟩]; rfl
end
section
/-! ===== the house as two rows of numbers: T (what was told, 35), P (now, 22) ===== -/
def inR (T P : Nat → Nat) (r : Nat) : Nat := bits (fun f => P f == r) (T 1)
def opn (T P : Nat → Nat) (q : Nat) : Bool := !(P 20).testBit q && decide (ones (inR T P q) < T (5 + q))
def cand (T P : Nat → Nat) (r : Nat) (carpet : Bool) (q : Nat) : Bool := (T (15 + r)).testBit q && opn T P q && (!carpet || decide (0 < P (15 + q)))
/-- the lowest of i .. i + d - 1 of which c says so -/
def lowF (c : Nat → Bool) (i : Nat) : Nat → Option Nat
  | 0 => none
  | d + 1 => if c i then some i else lowF c (i + 1) d
def optI (o : Option Nat) : Int32 := match o with
  | none => -9
  | some q => nI q
def bey (T P : Nat → Nat) (r : Nat) (carpet : Bool) : Option Nat := lowF (cand T P r carpet) 0 (T 0)
def bite (T P : Nat → Nat) (f : Nat) : Nat := if P (15 + P f) < T (25 + f) then P (15 + P f) else T (25 + f)
def moves (T P : Nat → Nat) (f : Nat) : Bool := (P 20).testBit (P f) || P (15 + P f) == 0
def eat (T P : Nat → Nat) (f : Nat) : Nat := if moves T P f then 0 else bite T P f
def actP (T P : Nat → Nat) (f : Nat) : Nat → Nat :=
  if moves T P f then up P f ((bey T P (P f) (!(P 20).testBit (P f))).getD (P f))
  else up (up (up P (15 + P f) (P (15 + P f) - bite T P f)) (5 + f) ((P (5 + f) + bite T P f) % T 2)) (10 + f) (if P (10 + f) + (P (5 + f) + bite T P f) / T 2 ≤ 99 then P (10 + f) + (P (5 + f) + bite T P f) / T 2 else 99)
/-- the flocks below n have acted: the numbers now, and what was eaten -/
def stepP (T P : Nat → Nat) : Nat → (Nat → Nat)
  | 0 => P
  | n + 1 => actP T (stepP T P n) n
def stepE (T P : Nat → Nat) (n : Nat) : Nat := sumN (fun f => eat T (stepP T P f) f) n
/-- a house as it may be told -/
def WT (T : Nat → Nat) : Prop := T 0 ≤ 5 ∧ T 1 ≤ 5 ∧ (1 ≤ T 2 ∧ T 2 ≤ 99) ∧ (∀ r, r < 5 → T (5 + r) ≤ 5 ∧ T (10 + r) ≤ 60 ∧ T (15 + r) < 2 ^ T 0 ∧ T (25 + r) ≤ 9 ∧ T (30 + r) ≤ 2) ∧ (∀ r, r < T 0 → 1 ≤ T (5 + r)) ∧ (∀ r, T 0 ≤ r → r < 5 → T (10 + r) = 0) ∧ (∀ f, f < T 1 → T (20 + f) < T 0 ∧ 1 ≤ T (25 + f)) ∧ (∀ f, T 1 ≤ f → f < 5 → T (20 + f) = 0)
def WP (T P : Nat → Nat) : Prop := (∀ f, f < T 1 → P f < T 0) ∧ (∀ f, T 1 ≤ f → f < 5 → P f = 0) ∧ (∀ f, f < 5 → P (5 + f) ≤ 98 ∧ P (10 + f) ≤ 99 ∧ P (15 + f) ≤ 60) ∧ (∀ r, T 0 ≤ r → r < 5 → P (15 + r) = 0) ∧ P 20 < 2 ^ T 0 ∧ P 21 ≤ 999 ∧ ∀ j, 22 ≤ j → P j = 0
theorem WP.p8 {T P : Nat → Nat} (hT : WT T) (hP : WP T P) : ∀ i, i < 5 → P i < 8 := by
  intro i hi
  by_cases h : i < T 1
  · have := hP.1 i h; have := hT.1; omega
  · rw [hP.2.1 i (by omega) hi]; decide
theorem lowF_some {c : Nat → Bool} : ∀ {d i q : Nat}, lowF c i d = some q → i ≤ q ∧ q < i + d ∧ c q = true ∧ ∀ j, i ≤ j → j < q → c j = false
  | 0, i, q, h => by cases h
  | d + 1, i, q, h => by
    unfold lowF at h
    by_cases hc : c i = true
    · rw [if_pos hc] at h; cases h
      exact ⟨Nat.le_refl _, by omega, hc, fun j h1 h2 => by omega⟩
    · rw [if_neg hc] at h
      obtain ⟨h1, h2, h3, h4⟩ := lowF_some h
      refine ⟨by omega, by omega, h3, fun j h5 h6 => ?_⟩
      by_cases e : j = i
      · rw [e]; simpa using hc
      · exact h4 j (by omega) h6
theorem lowF_none {c : Nat → Bool} : ∀ {d i : Nat}, lowF c i d = none → ∀ j, i ≤ j → j < i + d → c j = false
  | 0, i, _, j, h1, h2 => by omega
  | d + 1, i, h, j, h1, h2 => by
    unfold lowF at h
    by_cases hc : c i = true
    · rw [if_pos hc] at h; cases h
    · rw [if_neg hc] at h
      by_cases e : j = i
      · rw [e]; simpa using hc
      · exact lowF_none h j (by omega) (by omega)
theorem lowF_congr {c e : Nat → Bool} : ∀ {d i : Nat}, (∀ j, i ≤ j → j < i + d → c j = e j) → lowF c i d = lowF e i d
  | 0, _, _ => rfl
  | d + 1, i, h => by
    unfold lowF
    rw [h i (Nat.le_refl _) (by omega), lowF_congr fun j h1 h2 => h j (by omega) (by omega)]
theorem low_spec {a : Nat} (ha : a < 32) (h0 : a ≠ 0) : low a < 5 ∧ a.testBit (low a) = true ∧ ∀ j, j < low a → a.testBit j = false := by
  have key : ∀ b : Fin 32, b.val ≠ 0 → low b.val < 5 ∧ b.val.testBit (low b.val) = true ∧ ∀ j, j < low b.val → b.val.testBit j = false := by decide +kernel
  exact key ⟨a, ha⟩ h0
theorem tb_ge {a n i : Nat} (ha : a < 2 ^ n) (h : n ≤ i) : a.testBit i = false := Nat.testBit_lt_two_pow (Nat.lt_of_lt_of_le ha (Nat.pow_le_pow_right (by decide) h))
theorem tb_zero {a : Nat} (h : ∀ i, a.testBit i = false) : a = 0 := Nat.eq_of_testBit_eq fun i => by rw [h i]; simp
/-- the lowest of a set told by its bits -/
theorem low_F {a n : Nat} (hn : n ≤ 5) (ha : a < 2 ^ n) : (if a = 0 then none else some (low a)) = lowF (fun q => a.testBit q) 0 n := by
  have h32 : a < 32 := Nat.lt_of_lt_of_le ha (Nat.pow_le_pow_right (by decide) hn : 2 ^ n ≤ 2 ^ 5)
  by_cases h0 : a = 0
  · rw [if_pos h0]
    cases h : lowF (fun q => a.testBit q) 0 n with
    | none => rfl
    | some q =>
      have := (lowF_some h).2.2.1
      rw [h0] at this; simp at this
  · rw [if_neg h0]
    obtain ⟨l1, l2, l3⟩ := low_spec h32 h0
    cases h : lowF (fun q => a.testBit q) 0 n with
    | none =>
      exact absurd (tb_zero fun i => by
        by_cases hi : i < n
        · exact lowF_none h i (by omega) (by omega)
        · exact tb_ge ha (by omega)) h0
    | some q =>
      obtain ⟨-, m1, m2, m3⟩ := lowF_some h
      rcases Nat.lt_trichotomy (low a) q with g | g | g
      · have := m3 _ (Nat.zero_le _) g; rw [l2] at this; cases this
      · rw [g]
      · have := l3 _ g; rw [m2] at this; cases this
theorem pow_le5 {n : Nat} (h : n ≤ 5) : 2 ^ n ≤ 32 := (Nat.pow_le_pow_right (by decide) h : 2 ^ n ≤ 2 ^ 5)
theorem inR_lt {T P : Nat → Nat} (hT : WT T) (r : Nat) : inR T P r < 32 := Nat.lt_of_lt_of_le (bits_lt _ _) (pow_le5 hT.2.1)
theorem cnt_bits (c : Nat → Bool) : ∀ m n, n ≤ m → cnt (fun i => (bits c n).testBit i) m = cnt c n := by
  intro m
  induction m with
  | zero => intro n h; rw [Nat.le_zero.mp h]; rfl
  | succ m ih =>
    intro n h
    show cnt (fun i => (bits c n).testBit i) m + ((bits c n).testBit m).toNat = _
    by_cases e : n = m + 1
    · subst e
      have e1 : cnt (fun i => (bits c (m + 1)).testBit i) m = cnt c m := by
        rw [← ih m (Nat.le_refl m)]
        exact cnt_congr fun i hi => by rw [bits_tb, bits_tb]; simp [hi, show i < m + 1 by omega]
      rw [e1, bits_tb]
      simp [cnt]
    · rw [ih n (by omega), bits_tb]
      simp [show ¬ m < n by omega]
theorem ones_bits (c : Nat → Bool) {n : Nat} (h : n ≤ 5) : ones (bits c n) = cnt c n := cnt_bits c 5 n h
end
section
/-! ===== the reference's object ===== -/
def iA (n : Nat) (P : Nat → Nat) : qE := .inr (1, (n, .inl (fun j => nI (P j))))
def mC (m : Nat) (tr : Int64) (z : Nat → Int32) : qE := .inl (7, [.long tr, .ref (m + 1), .int (z 0), .ref (m + 2), .ref (m + 3), .ref (m + 4), .ref (m + 5), .int (z 1), .ref (m + 6), .ref (m + 7), .ref (m + 8), .int (z 2), .int (z 3), .int (z 4), .int (z 5), .int (z 6), .ref (m + 9), .ref (m + 10), .ref (m + 11)])
def upI (f : Nat → Int32) (i : Nat) (v : Int32) : Nat → Int32 := fun j => if j = i then v else f j
theorem u_s (σ : qH) (a : Nat) (e : qE) : (q_upd σ a e).1 a = some e := if_pos rfl
theorem u_n (σ : qH) {a b : Nat} (e : qE) (h : b ≠ a) : (q_upd σ a e).1 b = σ.1 b := if_neg h
theorem u_2 (σ : qH) (a : Nat) (e : qE) : (q_upd σ a e).2 = σ.2 := rfl
theorem u_u (σ : qH) (a : Nat) (e e' : qE) : q_upd (q_upd σ a e) a e' = q_upd σ a e' := by
  unfold q_upd
  congr 1
  funext b
  by_cases h : b = a <;> simp [h]
theorem u_c (σ : qH) {a b : Nat} (e e' : qE) (h : a ≠ b) : q_upd (q_upd σ a e) b e' = q_upd (q_upd σ b e') a e := by
  unfold q_upd
  congr 1
  funext x
  by_cases h1 : x = a <;> by_cases h2 : x = b <;> simp [h1, h2]
  · exact absurd (h1.symm.trans h2) h
  · exact fun q => absurd q h
  · exact fun q => absurd q.symm h
theorem u_self {σ : qH} {a : Nat} {e : qE} (h : σ.1 a = some e) : q_upd σ a e = σ := by
  obtain ⟨f, y⟩ := σ
  unfold q_upd
  congr 1
  funext x
  by_cases h1 : x = a
  · rw [if_pos h1, h1]; exact h.symm
  · rw [if_neg h1]
theorem a_rd {σ : qH} {a n : Nat} {P : Nat → Nat} (h : σ.1 a = some (iA n P)) {j : Nat} (hj : j < n) (hn : n < 2 ^ 31) : q_aldI σ (.ref a) 1 (nI j) = some (nI (P j)) := by
  unfold q_aldI q_arr
  simp only [h, iA, if_true]
  rw [if_neg (nI_in hj hn), nI_clamp (by omega)]
theorem upd_nI (P : Nat → Nat) {j : Nat} (hj : j < 2 ^ 31) (v : Nat) : upd (fun j => nI (P j)) (nI j).toNatClampNeg (nI v) = fun i => nI (up P j v i) := by
  rw [nI_clamp hj]
  funext i
  unfold upd up
  by_cases h : i = j <;> simp [h]
theorem a_wr {σ : qH} {a n : Nat} {P : Nat → Nat} (h : σ.1 a = some (iA n P)) {j : Nat} (hj : j < n) (hn : n < 2 ^ 31) (v : Nat) : q_astI σ (.ref a) 1 (nI j) (nI v) = some (q_upd σ a (iA n (up P j v))) := by
  unfold q_astI q_arr
  simp only [h, iA, if_true]
  rw [if_neg (nI_in hj hn), upd_nI P (by omega) v]
theorem q_obS {β α : Type} (x : β) (d : α) (f : β → α) : q_ob (some x) d f = f x := rfl
theorem q_cIS (x : Int32) (σ : qH) : q_cI (some (some (.int x), σ)) = some (x, σ) := rfl
theorem q_cLS (x : Int64) (σ : qH) : q_cL (some (some (.long x), σ)) = some (x, σ) := rfl
theorem q_cVS (σ : qH) : q_cV (some (none, σ)) = some σ := rfl
theorem g_I {σ : qH} {a ci j : Nat} {fs : List Value} {x : Int32} (h : σ.1 a = some (.inl (ci, fs))) (hj : fs[j]? = some (.int x)) : q_getI σ (.ref a) ci j = some x := by
  unfold q_getI q_fld q_obj
  simp only [h, if_true, hj, q_int]
theorem g_L {σ : qH} {a ci j : Nat} {fs : List Value} {x : Int64} (h : σ.1 a = some (.inl (ci, fs))) (hj : fs[j]? = some (.long x)) : q_getL σ (.ref a) ci j = some x := by
  unfold q_getL q_fld q_obj
  simp only [h, if_true, hj, q_long]
theorem g_R {σ : qH} {a ci j x : Nat} {fs : List Value} (h : σ.1 a = some (.inl (ci, fs))) (hj : fs[j]? = some (.ref x)) : q_getR σ (.ref a) ci j = some x := by
  unfold q_getR q_fld q_obj
  simp only [h, if_true, hj, q_ref]
theorem p_F {σ : qH} {a ci j t : Nat} {fs : List Value} {x : Value} (h : σ.1 a = some (.inl (ci, fs))) (hj : j < fs.length) (ho : q_okv t x = true) : q_put σ (.ref a) ci j t x = some (q_upd σ a (.inl (ci, fs.set j x))) := by
  unfold q_put
  simp only [h]
  rw [if_pos ⟨trivial, hj, ho⟩]
theorem m_trace {σ : qH} {m : Nat} {tr : Int64} {z : Nat → Int32} (h : σ.1 m = some (mC m tr z)) : q_getL σ (.ref m) 7 0 = some tr := g_L h rfl
theorem mp_trace {σ : qH} {m : Nat} {tr : Int64} {z : Nat → Int32} (h : σ.1 m = some (mC m tr z)) (x : Int64) : q_put σ (.ref m) 7 0 1 (.long x) = some (q_upd σ m (mC m x z)) := p_F h (show 0 < 19 by decide) rfl
theorem m_text {σ : qH} {m : Nat} {tr : Int64} {z : Nat → Int32} (h : σ.1 m = some (mC m tr z)) : q_getR σ (.ref m) 7 1 = some (m + 1) := g_R h rfl
theorem m_typed {σ : qH} {m : Nat} {tr : Int64} {z : Nat → Int32} (h : σ.1 m = some (mC m tr z)) : q_getI σ (.ref m) 7 2 = some (z 0) := g_I h rfl
theorem mp_typed {σ : qH} {m : Nat} {tr : Int64} {z : Nat → Int32} (h : σ.1 m = some (mC m tr z)) (x : Int32) : q_put σ (.ref m) 7 2 0 (.int x) = some (q_upd σ m (mC m tr (upI z 0 x))) := p_F h (show 2 < 19 by decide) rfl
theorem m_told {σ : qH} {m : Nat} {tr : Int64} {z : Nat → Int32} (h : σ.1 m = some (mC m tr z)) : q_getR σ (.ref m) 7 3 = some (m + 2) := g_R h rfl
theorem m_draft {σ : qH} {m : Nat} {tr : Int64} {z : Nat → Int32} (h : σ.1 m = some (mC m tr z)) : q_getR σ (.ref m) 7 4 = some (m + 3) := g_R h rfl
theorem m_s {σ : qH} {m : Nat} {tr : Int64} {z : Nat → Int32} (h : σ.1 m = some (mC m tr z)) : q_getR σ (.ref m) 7 5 = some (m + 4) := g_R h rfl
theorem m_past {σ : qH} {m : Nat} {tr : Int64} {z : Nat → Int32} (h : σ.1 m = some (mC m tr z)) : q_getR σ (.ref m) 7 6 = some (m + 5) := g_R h rfl
theorem m_known {σ : qH} {m : Nat} {tr : Int64} {z : Nat → Int32} (h : σ.1 m = some (mC m tr z)) : q_getI σ (.ref m) 7 7 = some (z 1) := g_I h rfl
theorem mp_known {σ : qH} {m : Nat} {tr : Int64} {z : Nat → Int32} (h : σ.1 m = some (mC m tr z)) (x : Int32) : q_put σ (.ref m) 7 7 0 (.int x) = some (q_upd σ m (mC m tr (upI z 1 x))) := p_F h (show 7 < 19 by decide) rfl
theorem m_images {σ : qH} {m : Nat} {tr : Int64} {z : Nat → Int32} (h : σ.1 m = some (mC m tr z)) : q_getR σ (.ref m) 7 8 = some (m + 6) := g_R h rfl
theorem m_kept {σ : qH} {m : Nat} {tr : Int64} {z : Nat → Int32} (h : σ.1 m = some (mC m tr z)) : q_getR σ (.ref m) 7 9 = some (m + 7) := g_R h rfl
theorem m_notes {σ : qH} {m : Nat} {tr : Int64} {z : Nat → Int32} (h : σ.1 m = some (mC m tr z)) : q_getR σ (.ref m) 7 10 = some (m + 8) := g_R h rfl
theorem m_noted {σ : qH} {m : Nat} {tr : Int64} {z : Nat → Int32} (h : σ.1 m = some (mC m tr z)) : q_getI σ (.ref m) 7 11 = some (z 2) := g_I h rfl
theorem mp_noted {σ : qH} {m : Nat} {tr : Int64} {z : Nat → Int32} (h : σ.1 m = some (mC m tr z)) (x : Int32) : q_put σ (.ref m) 7 11 0 (.int x) = some (q_upd σ m (mC m tr (upI z 2 x))) := p_F h (show 11 < 19 by decide) rfl
theorem m_at {σ : qH} {m : Nat} {tr : Int64} {z : Nat → Int32} (h : σ.1 m = some (mC m tr z)) : q_getI σ (.ref m) 7 12 = some (z 3) := g_I h rfl
theorem mp_at {σ : qH} {m : Nat} {tr : Int64} {z : Nat → Int32} (h : σ.1 m = some (mC m tr z)) (x : Int32) : q_put σ (.ref m) 7 12 0 (.int x) = some (q_upd σ m (mC m tr (upI z 3 x))) := p_F h (show 12 < 19 by decide) rfl
theorem m_sort {σ : qH} {m : Nat} {tr : Int64} {z : Nat → Int32} (h : σ.1 m = some (mC m tr z)) : q_getI σ (.ref m) 7 13 = some (z 4) := g_I h rfl
theorem mp_sort {σ : qH} {m : Nat} {tr : Int64} {z : Nat → Int32} (h : σ.1 m = some (mC m tr z)) (x : Int32) : q_put σ (.ref m) 7 13 0 (.int x) = some (q_upd σ m (mC m tr (upI z 4 x))) := p_F h (show 13 < 19 by decide) rfl
theorem m_start {σ : qH} {m : Nat} {tr : Int64} {z : Nat → Int32} (h : σ.1 m = some (mC m tr z)) : q_getI σ (.ref m) 7 14 = some (z 5) := g_I h rfl
theorem mp_start {σ : qH} {m : Nat} {tr : Int64} {z : Nat → Int32} (h : σ.1 m = some (mC m tr z)) (x : Int32) : q_put σ (.ref m) 7 14 0 (.int x) = some (q_upd σ m (mC m tr (upI z 5 x))) := p_F h (show 14 < 19 by decide) rfl
theorem m_value {σ : qH} {m : Nat} {tr : Int64} {z : Nat → Int32} (h : σ.1 m = some (mC m tr z)) : q_getI σ (.ref m) 7 15 = some (z 6) := g_I h rfl
theorem mp_value {σ : qH} {m : Nat} {tr : Int64} {z : Nat → Int32} (h : σ.1 m = some (mC m tr z)) (x : Int32) : q_put σ (.ref m) 7 15 0 (.int x) = some (q_upd σ m (mC m tr (upI z 6 x))) := p_F h (show 15 < 19 by decide) rfl
theorem m_aside {σ : qH} {m : Nat} {tr : Int64} {z : Nat → Int32} (h : σ.1 m = some (mC m tr z)) : q_getR σ (.ref m) 7 16 = some (m + 9) := g_R h rfl
theorem m_near {σ : qH} {m : Nat} {tr : Int64} {z : Nat → Int32} (h : σ.1 m = some (mC m tr z)) : q_getR σ (.ref m) 7 17 = some (m + 10) := g_R h rfl
theorem m_nearer {σ : qH} {m : Nat} {tr : Int64} {z : Nat → Int32} (h : σ.1 m = some (mC m tr z)) : q_getR σ (.ref m) 7 18 = some (m + 11) := g_R h rfl
end
section
/-! ===== the reference: rooms, the way on, a step ===== -/
theorem n1 : nI 0 - nI 1 < nI 0 := by decide
theorem pm1 (n : Nat) : nI (n + 1) - nI 1 = nI n := by rw [pk_sub (by omega)]; rfl
theorem n_pm (x : Int32) : x + (-1 : Int32) = x - nI 1 := by
  rw [Int32.sub_eq_add_neg]
  rfl
theorem m_inRoom {σ : qH} {m : Nat} {tr : Int64} {z : Nat → Int32} {T P : Nat → Nat} (h0 : σ.1 m = some (mC m tr z)) (h2 : σ.1 (m + 2) = some (iA 35 T)) (h4 : σ.1 (m + 4) = some (iA 22 P)) (hT : T 1 ≤ 5) (hP : ∀ f, f < 5 → P f < 8) {r : Nat} (hr : r < 2 ^ 31) :
    q_call 62 [.ref m, .int (nI r)] σ = some (some (.int (nI (inR T P r))), σ) := by
  rw [k_62 h0, e_62_0]
  refine (q_for (fun i => q_run 62 4 [(0, .ref m), (1, .int (nI r)), (2, .int (nI (bits (fun f => P f == r) i))), (3, .int (nI i))] [] σ) (T 1) (fun i hi => ?_)).trans ?_
  · rw [e_62_4, m_told h0, q_obS, a_rd h2 (by decide) (by decide), q_obS, if_neg (nI_ge hi (by omega)), m_s h0, q_obS, a_rd h4 (by omega) (by decide), q_obS, e_62_32, e_62_32, nI_add]
    have hPi := hP i (by omega)
    by_cases hc : P i = r
    · have hb : (P i == r) = true := by simpa using hc
      rw [if_pos (by rw [hc]), n_shl (by omega) (by have := Nat.pow_le_pow_right (show 0 < 2 by decide) (show i ≤ 5 by omega); omega), Nat.one_mul, n_or, bits_t (c := fun f => P f == r) hb]
    · have hb : (P i == r) = false := by simpa using hc
      rw [if_neg (fun q => hc ((nI_eq (by omega) hr).mp q)), n_or, Nat.or_zero, bits_f (c := fun f => P f == r) hb]
  · rw [e_62_4, m_told h0, q_obS, a_rd h2 (by decide) (by decide), q_obS, if_pos (nI_le (Nat.le_refl _) (by omega))]
    rfl
theorem m_beyond {σ : qH} {m : Nat} {tr : Int64} {z : Nat → Int32} {T P : Nat → Nat} (h0 : σ.1 m = some (mC m tr z)) (h2 : σ.1 (m + 2) = some (iA 35 T)) (h4 : σ.1 (m + 4) = some (iA 22 P)) (hT : WT T) (hP : WP T P) {r : Nat} (hr : r < 5) (b : Bool) :
    q_call 66 [.ref m, .int (nI r), .int (nI b.toNat)] σ = some (some (.int (optI (bey T P r b))), σ) := by
  obtain ⟨t0, t1, t2, t5, t6, t7, t8, t9⟩ := id hT
  obtain ⟨p0, p1, p5, p6, p7, p8⟩ := id hP
  have hP20 : P 20 < 2 ^ 31 := Nat.lt_of_lt_of_le p7 (Nat.le_trans (pow_le5 t0) (by decide))
  have hTd : T (15 + r) < 2 ^ 31 := Nat.lt_of_lt_of_le (t5 r hr).2.2.1 (Nat.le_trans (pow_le5 t0) (by decide))
  have hin : ∀ q, q < 2 ^ 31 → q_call 62 [.ref m, .int (nI q)] σ = some (some (.int (nI (inR T P q))), σ) := fun q hq => m_inRoom h0 h2 h4 t1 (hP.p8 hT) hq
  have step : ∀ i, i < T 0 → ∀ found : Int32, q_run 66 13 [(0, .ref m), (1, .int (nI r)), (2, .int (nI b.toNat)), (3, .int found), (4, .int (nI (i + 1) - nI 1))] [] σ = q_run 66 13 [(0, .ref m), (1, .int (nI r)), (2, .int (nI b.toNat)), (3, .int (if cand T P r b i = true then nI i else found)), (4, .int (nI i - nI 1))] [] σ := by
    intro i hi found
    have hi5 : i < 5 := by omega
    have hones : ones (inR T P i) ≤ 5 := cnt_le _ 5
    have ht5 := (t5 i hi5).1
    have hp15 := (p5 i hi5).2.2
    rw [pm1, e_66_13, if_neg (show ¬ nI i < nI 0 from nI_pos (by omega)), m_told h0, q_obS, nI_add, a_rd h2 (by omega) (by decide), q_obS, m_has hTd (by omega), q_cIS, q_obS]
    have hx : ∀ s : Int32, q_run 66 106 [(0, .ref m), (1, .int (nI r)), (2, .int (nI b.toNat)), (4, .int (nI i))] [.int s] σ = q_run 66 13 [(0, .ref m), (1, .int (nI r)), (2, .int (nI b.toNat)), (3, .int s), (4, .int (nI i - nI 1))] [] σ := by
      intro s
      rw [e_66_106, n_pm]
    cases hd : (T (15 + r)).testBit i with
    | false =>
      dsimp only
      rw [if_pos (show nI (false.toNat) = nI 0 from rfl), e_66_75, e_66_76, if_pos rfl, e_66_105, hx]
      simp [cand, hd]
    | true =>
      dsimp only
      rw [if_neg (show ¬ nI (true.toNat) = nI 0 by decide), m_s h0, q_obS, a_rd h4 (by decide) (by decide), q_obS, m_has hP20 (by omega), q_cIS, q_obS]
      cases hg : (P 20).testBit i with
      | true =>
        dsimp only
        rw [if_neg (show ¬ nI (true.toNat) = nI 0 by decide), e_66_75, e_66_76, if_pos rfl, e_66_105, hx]
        simp [cand, opn, hg]
      | false =>
        dsimp only
        rw [if_pos (show nI (false.toNat) = nI 0 from rfl), hin i (by omega), q_cIS, q_obS]
        dsimp only
        rw [m_ones (Nat.lt_of_lt_of_le (inR_lt hT i) (by decide)), q_cIS, q_obS]
        dsimp only
        rw [m_told h0, q_obS, nI_add, a_rd h2 (by omega) (by decide), q_obS]
        by_cases ho : T (5 + i) ≤ ones (inR T P i)
        · rw [if_pos (nI_le ho (by omega)), e_66_75, e_66_76, if_pos rfl, e_66_105, hx]
          simp [cand, opn, hg, Nat.not_lt.mpr ho]
        · rw [if_neg (fun q => ho ((nI_leI (by omega) (by omega)).mp q)), e_66_76, if_neg (by decide)]
          have ho2 : ones (inR T P i) < T (5 + i) := Nat.not_le.mp ho
          cases b with
          | false =>
            rw [if_pos (show nI (false.toNat) = nI 0 from rfl), e_66_100, hx]
            simp [cand, opn, hg, hd, ho2]
          | true =>
            rw [if_neg (show ¬ nI (true.toNat) = nI 0 by decide), m_s h0, q_obS, nI_add, a_rd h4 (by omega) (by decide), q_obS]
            by_cases hc : P (15 + i) ≤ 0
            · rw [if_pos (nI_le hc (by omega)), e_66_105, hx]
              simp [cand, Nat.le_zero.mp hc]
            · rw [if_neg (fun q => hc ((nI_leI (by omega) (by omega)).mp q)), e_66_100, hx]
              simp [cand, opn, hg, hd, ho2, Nat.pos_of_ne_zero (fun q => hc (Nat.le_of_eq q))]
  rw [k_66 h0, e_66_0, m_told h0, q_obS, a_rd h2 (by decide) (by decide), q_obS]
  have all : ∀ d i, i + d = T 0 → q_run 66 13 [(0, .ref m), (1, .int (nI r)), (2, .int (nI b.toNat)), (3, .int (optI (lowF (cand T P r b) (i + d) 0))), (4, .int (nI (i + d) - nI 1))] [] σ = q_run 66 13 [(0, .ref m), (1, .int (nI r)), (2, .int (nI b.toNat)), (3, .int (optI (lowF (cand T P r b) i d))), (4, .int (nI i - nI 1))] [] σ := by
    intro d
    induction d with
    | zero => intro i _; rfl
    | succ d ih =>
      intro i hi
      have e1 := ih (i + 1) (by omega)
      have e2 := step i (by omega) (optI (lowF (cand T P r b) (i + 1) d))
      rw [show i + (d + 1) = i + 1 + d by omega]
      refine Eq.trans e1 (Eq.trans e2 ?_)
      congr 7
      show (if cand T P r b i = true then nI i else optI (lowF (cand T P r b) (i + 1) d)) = optI (if cand T P r b i then some i else lowF (cand T P r b) (i + 1) d)
      cases cand T P r b i <;> rfl
  have e0 := all (T 0) 0 (by omega)
  rw [Nat.zero_add] at e0
  refine Eq.trans e0 ?_
  rw [e_66_13, if_pos n1]
  rfl
end
section
/-! ===== the reference: one flock acts; a step ===== -/
/-- one flock acts -/
theorem m_act {σ : qH} {m : Nat} {tr : Int64} {z : Nat → Int32} {T P : Nat → Nat} (h0 : σ.1 m = some (mC m tr z)) (h2 : σ.1 (m + 2) = some (iA 35 T)) (h4 : σ.1 (m + 4) = some (iA 22 P)) (hT : WT T) (hP : WP T P) {f : Nat} (hf : f < T 1) (s : Nat) :
    q_run 67 4 [(0, .ref m), (1, .int (nI s)), (2, .int (nI f))] [] σ = q_run 67 4 [(0, .ref m), (1, .int (nI (s + eat T P f))), (2, .int (nI (f + 1)))] [] (q_upd σ (m + 4) (iA 22 (actP T P f))) := by
  obtain ⟨t0, t1, t2, t5, t6, t7, t8, t9⟩ := id hT
  obtain ⟨p0, p1, p5, p6, p7, p8⟩ := id hP
  have hf5 : f < 5 := by omega
  have hr := p0 f hf
  have hr5 : P f < 5 := by omega
  have hP20 : P 20 < 2 ^ 31 := Nat.lt_of_lt_of_le p7 (Nat.le_trans (pow_le5 t0) (by decide))
  have hle := (p5 (P f) hr5).2.2
  have hln := p5 f hf5
  have htf := t5 f hf5
  rw [e_67_4, m_told h0, q_obS, a_rd h2 (by decide) (by decide), q_obS, if_neg (fun q => absurd ((nI_leI (by omega) (by omega)).mp q) (by omega)), m_s h0, q_obS, a_rd h4 (by omega) (by decide), q_obS, q_obS, a_rd h4 (by decide) (by decide), q_obS, m_has hP20 (by omega), q_cIS, q_obS]
  have fin : ∀ σ' s', q_run 67 227 [(0, .ref m), (1, .int (nI s')), (2, .int (nI f))] [] σ' = q_run 67 4 [(0, .ref m), (1, .int (nI s')), (2, .int (nI (f + 1)))] [] σ' := by
    intro σ' s'
    rw [e_67_227, nI_add]
  have mv : moves T P f = true → ∀ b : Bool, b = (P 20).testBit (P f) → q_run 67 51 [(0, .ref m), (1, .int (nI s)), (2, .int (nI f)), (3, .int (nI (P f))), (4, .int (nI b.toNat))] [] σ = q_run 67 4 [(0, .ref m), (1, .int (nI (s + eat T P f))), (2, .int (nI (f + 1)))] [] (q_upd σ (m + 4) (iA 22 (actP T P f))) := by
    intro hm b hb
    have e1 : q_run 67 51 [(0, .ref m), (1, .int (nI s)), (2, .int (nI f)), (3, .int (nI (P f))), (4, .int (nI b.toNat))] [] σ = q_run 67 63 [(0, .ref m), (1, .int (nI s)), (2, .int (nI f)), (3, .int (nI (P f)))] [.int (nI (!b).toNat), .int (nI (P f)), .ref m] σ := by
      rw [e_67_51]
      cases b <;> rfl
    rw [e1, e_67_63, m_beyond h0 h2 h4 hT hP hr5, q_cIS, q_obS]
    dsimp only
    rw [m_s h0, q_obS]
    have e2 : eat T P f = 0 := if_pos hm
    have e3 : actP T P f = up P f ((bey T P (P f) (!(P 20).testBit (P f))).getD (P f)) := if_pos hm
    rw [e2, Nat.add_zero, e3, ← hb]
    cases hbey : bey T P (P f) (!b) with
    | none =>
      rw [if_pos (show optI none = (-9 : Int32) from rfl), e_67_86, a_wr h4 (by omega) (by decide), q_obS, fin]
      rfl
    | some q =>
      have hq : q < 5 := by
        have := (lowF_some hbey).2.1
        omega
      rw [if_neg (show ¬ optI (some q) = (-9 : Int32) from fun e => absurd (congrArg Int32.toInt e) (by show ¬ (nI q).toInt = -9; rw [nI_toInt (by omega)]; omega)), e_67_86, show optI (some q) = nI q from rfl, a_wr h4 (by omega) (by decide), q_obS, fin]
      rfl
  cases hd : (P 20).testBit (P f) with
  | true =>
    dsimp only
    rw [if_neg (show ¬ nI (true.toNat) = nI 0 by decide)]
    exact mv (by unfold moves; rw [hd]; rfl) true hd.symm
  | false =>
    dsimp only
    rw [if_pos (show nI (false.toNat) = nI 0 from rfl)]
    simp (disch := omega) only [m_s h0, m_told h0, q_obS, nI_add, a_rd h4, a_rd h2]
    by_cases hc : P (15 + P f) = 0
    · rw [if_pos (by rw [hc])]
      exact mv (by unfold moves; rw [hc]; simp) false hd.symm
    · have hm : moves T P f = false := by unfold moves; rw [hd]; simpa using hc
      rw [if_neg (fun q => hc ((nI_eq (by omega) (by decide)).mp q))]
      have e2 : eat T P f = bite T P f := by unfold eat; rw [hm]; rfl
      have hb9 : bite T P f ≤ 9 ∧ bite T P f ≤ P (15 + P f) := by
        unfold bite
        split <;> omega
      have go : q_run 67 132 [(0, .ref m), (1, .int (nI s)), (2, .int (nI f)), (3, .int (nI (P f)))] [.int (nI (bite T P f))] σ = q_run 67 4 [(0, .ref m), (1, .int (nI (s + eat T P f))), (2, .int (nI (f + 1)))] [] (q_upd σ (m + 4) (iA 22 (actP T P f))) := by
        rw [e2, show actP T P f = _ from if_neg (by rw [hm]; decide)]
        have h4a : (q_upd σ (m + 4) (iA 22 (up P (15 + P f) (P (15 + P f) - bite T P f)))).1 (m + 4) = some (iA 22 (up P (15 + P f) (P (15 + P f) - bite T P f))) := u_s ..
        have h0a : (q_upd σ (m + 4) (iA 22 (up P (15 + P f) (P (15 + P f) - bite T P f)))).1 m = some (mC m tr z) := (u_n _ _ (by omega)).trans h0
        have h2a : (q_upd σ (m + 4) (iA 22 (up P (15 + P f) (P (15 + P f) - bite T P f)))).1 (m + 2) = some (iA 35 T) := (u_n _ _ (by omega)).trans h2
        rw [e_67_132, m_s h0, q_obS, nI_add, a_rd h4 (by omega) (by decide), q_obS, pk_sub hb9.2, a_wr h4 (by omega) (by decide), q_obS]
        simp (disch := omega) only [m_s h0a, m_told h0a, q_obS, nI_add, a_rd h4a, a_rd h2a]
        rw [up_n _ _ (show 5 + f ≠ 15 + P f by omega), up_n _ _ (show 10 + f ≠ 15 + P f by omega), if_neg (fun q => absurd ((nI_eq (by omega) (by decide)).mp q) (by omega)), if_neg (fun q => absurd ((nI_eq (by omega) (by decide)).mp q) (by omega)), pk_rem (by omega) (by omega) (by omega), a_wr h4a (by omega) (by decide), q_obS, u_u,
          pk_div (by omega) (by omega) (by omega), nI_add]
        have h4b : (q_upd σ (m + 4) (iA 22 (up (up P (15 + P f) (P (15 + P f) - bite T P f)) (5 + f) ((P (5 + f) + bite T P f) % T 2)))).1 (m + 4) = some (iA 22 (up (up P (15 + P f) (P (15 + P f) - bite T P f)) (5 + f) ((P (5 + f) + bite T P f) % T 2))) := u_s ..
        have h0b : (q_upd σ (m + 4) (iA 22 (up (up P (15 + P f) (P (15 + P f) - bite T P f)) (5 + f) ((P (5 + f) + bite T P f) % T 2)))).1 m = some (mC m tr z) := (u_n _ _ (by omega)).trans h0
        have hdv : (P (5 + f) + bite T P f) / T 2 ≤ P (5 + f) + bite T P f := Nat.div_le_self _ _
        rw [m_s h0b, q_obS]
        by_cases h99 : P (10 + f) + (P (5 + f) + bite T P f) / T 2 ≤ 99
        · rw [if_pos (nI_le h99 (by omega)), e_67_226, a_wr h4b (by omega) (by decide), q_obS, u_u, fin, if_pos h99]
        · rw [if_neg (fun q => h99 ((nI_leI (by omega) (by omega)).mp q)), e_67_226, a_wr h4b (by omega) (by decide), q_obS, u_u, fin, if_neg h99]
      by_cases hlt : T (25 + f) ≤ P (15 + P f)
      · rw [if_pos (nI_le hlt (by omega))]
        have eb : bite T P f = T (25 + f) := by unfold bite; rw [if_neg (by omega)]
        rw [← eb]
        exact go
      · rw [if_neg (fun q => hlt ((nI_leI (by omega) (by omega)).mp q))]
        have eb : bite T P f = P (15 + P f) := by unfold bite; rw [if_pos (by omega)]
        rw [← eb]
        exact go
end
section
/-! ===== the class: a plan, an evening; what they reckon ===== -/
def planC (T : Nat → Nat) (z : Int32) : qE := .inl (3, [.int (nI (T 0)), .int (nI (T 1)), .int (nI (T 2)), .int z, .long (lN (pkL (fun i => T (5 + i)))), .long (lN (pkL (fun i => T (10 + i)))), .long (lN (pkL (fun i => T (15 + i)))), .int (nI (pkS (fun i => T (20 + i)))), .long (lN (pkL (fun i => T (25 + i)))), .long (lN (pkL (fun i => T (30 + i))))])
theorem pl_rooms {σ : qH} {p : Nat} {T : Nat → Nat} {z : Int32} (h : σ.1 p = some (planC T z)) : q_getI σ (.ref p) 3 0 = some (nI (T 0)) := g_I h rfl
theorem pl_flocks {σ : qH} {p : Nat} {T : Nat → Nat} {z : Int32} (h : σ.1 p = some (planC T z)) : q_getI σ (.ref p) 3 1 = some (nI (T 1)) := g_I h rfl
theorem pl_lambAt {σ : qH} {p : Nat} {T : Nat → Nat} {z : Int32} (h : σ.1 p = some (planC T z)) : q_getI σ (.ref p) 3 2 = some (nI (T 2)) := g_I h rfl
theorem pl_told {σ : qH} {p : Nat} {T : Nat → Nat} {z : Int32} (h : σ.1 p = some (planC T z)) : q_getI σ (.ref p) 3 3 = some (z) := g_I h rfl
theorem pl_holds {σ : qH} {p : Nat} {T : Nat → Nat} {z : Int32} (h : σ.1 p = some (planC T z)) : q_getL σ (.ref p) 3 4 = some (lN (pkL (fun i => T (5 + i)))) := g_L h rfl
theorem pl_carpets {σ : qH} {p : Nat} {T : Nat → Nat} {z : Int32} (h : σ.1 p = some (planC T z)) : q_getL σ (.ref p) 3 5 = some (lN (pkL (fun i => T (10 + i)))) := g_L h rfl
theorem pl_doors {σ : qH} {p : Nat} {T : Nat → Nat} {z : Int32} (h : σ.1 p = some (planC T z)) : q_getL σ (.ref p) 3 6 = some (lN (pkL (fun i => T (15 + i)))) := g_L h rfl
theorem pl_homes {σ : qH} {p : Nat} {T : Nat → Nat} {z : Int32} (h : σ.1 p = some (planC T z)) : q_getI σ (.ref p) 3 7 = some (nI (pkS (fun i => T (20 + i)))) := g_I h rfl
theorem pl_hungers {σ : qH} {p : Nat} {T : Nat → Nat} {z : Int32} (h : σ.1 p = some (planC T z)) : q_getL σ (.ref p) 3 8 = some (lN (pkL (fun i => T (25 + i)))) := g_L h rfl
theorem pl_stuffs {σ : qH} {p : Nat} {T : Nat → Nat} {z : Int32} (h : σ.1 p = some (planC T z)) : q_getL σ (.ref p) 3 9 = some (lN (pkL (fun i => T (30 + i)))) := g_L h rfl
def evR (a : Int32) (b c d : Int64) (g k : Int32) : qE := .inl (0, [.int a, .long b, .long c, .long d, .int g, .int k])
theorem ev_places {σ : qH} {x : Nat} {a : Int32} {b c d : Int64} {g k : Int32} (h : σ.1 x = some (evR a b c d g k)) : q_getI σ (.ref x) 0 0 = some a := g_I h rfl
theorem evp_places {σ : qH} {x : Nat} {a : Int32} {b c d : Int64} {g k : Int32} (h : σ.1 x = some (evR a b c d g k)) (y : Int32) : q_put σ (.ref x) 0 0 0 (.int y) = some (q_upd σ x (evR y b c d g k)) := p_F h (show 0 < 6 by decide) rfl
theorem ev_carpets {σ : qH} {x : Nat} {a : Int32} {b c d : Int64} {g k : Int32} (h : σ.1 x = some (evR a b c d g k)) : q_getL σ (.ref x) 0 1 = some b := g_L h rfl
theorem evp_carpets {σ : qH} {x : Nat} {a : Int32} {b c d : Int64} {g k : Int32} (h : σ.1 x = some (evR a b c d g k)) (y : Int64) : q_put σ (.ref x) 0 1 1 (.long y) = some (q_upd σ x (evR a y c d g k)) := p_F h (show 1 < 6 by decide) rfl
theorem ev_eaten {σ : qH} {x : Nat} {a : Int32} {b c d : Int64} {g k : Int32} (h : σ.1 x = some (evR a b c d g k)) : q_getL σ (.ref x) 0 2 = some c := g_L h rfl
theorem evp_eaten {σ : qH} {x : Nat} {a : Int32} {b c d : Int64} {g k : Int32} (h : σ.1 x = some (evR a b c d g k)) (y : Int64) : q_put σ (.ref x) 0 2 1 (.long y) = some (q_upd σ x (evR a b y d g k)) := p_F h (show 2 < 6 by decide) rfl
theorem ev_lambs {σ : qH} {x : Nat} {a : Int32} {b c d : Int64} {g k : Int32} (h : σ.1 x = some (evR a b c d g k)) : q_getL σ (.ref x) 0 3 = some d := g_L h rfl
theorem evp_lambs {σ : qH} {x : Nat} {a : Int32} {b c d : Int64} {g k : Int32} (h : σ.1 x = some (evR a b c d g k)) (y : Int64) : q_put σ (.ref x) 0 3 1 (.long y) = some (q_upd σ x (evR a b c y g k)) := p_F h (show 3 < 6 by decide) rfl
theorem ev_dogs {σ : qH} {x : Nat} {a : Int32} {b c d : Int64} {g k : Int32} (h : σ.1 x = some (evR a b c d g k)) : q_getI σ (.ref x) 0 4 = some g := g_I h rfl
theorem evp_dogs {σ : qH} {x : Nat} {a : Int32} {b c d : Int64} {g k : Int32} (h : σ.1 x = some (evR a b c d g k)) (y : Int32) : q_put σ (.ref x) 0 4 0 (.int y) = some (q_upd σ x (evR a b c d y k)) := p_F h (show 4 < 6 by decide) rfl
theorem ev_night {σ : qH} {x : Nat} {a : Int32} {b c d : Int64} {g k : Int32} (h : σ.1 x = some (evR a b c d g k)) : q_getI σ (.ref x) 0 5 = some k := g_I h rfl
theorem evp_night {σ : qH} {x : Nat} {a : Int32} {b c d : Int64} {g k : Int32} (h : σ.1 x = some (evR a b c d g k)) (y : Int32) : q_put σ (.ref x) 0 5 0 (.int y) = some (q_upd σ x (evR a b c d g y)) := p_F h (show 5 < 6 by decide) rfl
def evC (P : Nat → Nat) : qE := evR (nI (pkS P)) (lN (pkL (fun i => P (15 + i)))) (lN (pkL (fun i => P (5 + i)))) (lN (pkL (fun i => P (10 + i)))) (nI (P 20)) (nI (P 21))
theorem WT.l {T : Nat → Nat} (hT : WT T) : (∀ i, i < 5 → T (5 + i) < 256) ∧ (∀ i, i < 5 → T (10 + i) < 256) ∧ (∀ i, i < 5 → T (15 + i) < 256) ∧ (∀ i, i < 5 → T (25 + i) < 256) ∧ (∀ i, i < 5 → T (30 + i) < 256) ∧ (∀ i, i < 5 → T (20 + i) < 8) := by
  obtain ⟨t0, t1, t2, t5, t6, t7, t8, t9⟩ := hT
  refine ⟨fun i hi => ?_, fun i hi => ?_, fun i hi => ?_, fun i hi => ?_, fun i hi => ?_, fun i hi => ?_⟩
  · have := (t5 i hi).1; omega
  · have := (t5 i hi).2.1; omega
  · have := (t5 i hi).2.2.1; have := pow_le5 t0; omega
  · have := (t5 i hi).2.2.2.1; omega
  · have := (t5 i hi).2.2.2.2; omega
  · by_cases h : i < T 1
    · have := (t8 i h).1; omega
    · rw [t9 i (by omega) hi]; decide
theorem WP.l {T P : Nat → Nat} (hP : WP T P) : (∀ i, i < 5 → P (5 + i) < 256) ∧ (∀ i, i < 5 → P (10 + i) < 256) ∧ (∀ i, i < 5 → P (15 + i) < 256) := by
  obtain ⟨p0, p1, p5, p6, p7, p8⟩ := hP
  refine ⟨fun i hi => ?_, fun i hi => ?_, fun i hi => ?_⟩
  · have := (p5 i hi).1; omega
  · have := (p5 i hi).2.1; omega
  · have := (p5 i hi).2.2; omega
theorem WP.act {T P : Nat → Nat} (hT : WT T) (hP : WP T P) {f : Nat} (hf : f < T 1) : WP T (actP T P f) := by
  obtain ⟨t0, t1, t2, t5, t6, t7, t8, t9⟩ := id hT
  obtain ⟨p0, p1, p5, p6, p7, p8⟩ := id hP
  have hr := p0 f hf
  have hr5 : P f < 5 := by omega
  by_cases hm : moves T P f = true
  · rw [show actP T P f = _ from if_pos hm]
    have hv : (bey T P (P f) (!(P 20).testBit (P f))).getD (P f) < T 0 := by
      cases hb : bey T P (P f) (!(P 20).testBit (P f)) with
      | none => exact hr
      | some q => have := (lowF_some hb).2.1; show q < _; omega
    generalize (bey T P (P f) (!(P 20).testBit (P f))).getD (P f) = v at hv
    refine ⟨fun i hi => ?_, fun i h1 h2 => ?_, fun i hi => ?_, fun i h1 h2 => ?_, ?_, ?_⟩
    · by_cases e : i = f
      · rw [e, up_s]; exact hv
      · rw [up_n _ _ e]; exact p0 i hi
    · rw [up_n _ _ (by omega)]; exact p1 i h1 h2
    · rw [up_n _ _ (by omega), up_n _ _ (by omega), up_n _ _ (by omega)]; exact p5 i hi
    · rw [up_n _ _ (by omega)]; exact p6 i h1 h2
    · rw [up_n _ _ (by omega)]; exact p7
    · exact ⟨by rw [up_n _ _ (by omega)]; exact p8.1, fun j hj => by rw [up_n _ _ (by omega)]; exact p8.2 j hj⟩
  · rw [show actP T P f = _ from if_neg hm]
    have hl1 := Nat.mod_lt (P (5 + f) + bite T P f) (show 0 < T 2 by omega)
    generalize (P (5 + f) + bite T P f) % T 2 = v1 at hl1
    have hl2 : (if P (10 + f) + (P (5 + f) + bite T P f) / T 2 ≤ 99 then P (10 + f) + (P (5 + f) + bite T P f) / T 2 else 99) ≤ 99 := by split <;> omega
    generalize (if P (10 + f) + (P (5 + f) + bite T P f) / T 2 ≤ 99 then P (10 + f) + (P (5 + f) + bite T P f) / T 2 else 99) = v2 at hl2
    have hb : P (15 + P f) - bite T P f ≤ P (15 + P f) := Nat.sub_le _ _
    have hz : P (15 + P f) ≤ 60 := (p5 _ hr5).2.2
    refine ⟨fun i hi => ?_, fun i h1 h2 => ?_, fun i hi => ?_, fun i h1 h2 => ?_, ?_, ?_⟩
    · rw [up_n _ _ (by omega), up_n _ _ (by omega), up_n _ _ (by omega)]; exact p0 i hi
    · rw [up_n _ _ (by omega), up_n _ _ (by omega), up_n _ _ (by omega)]; exact p1 i h1 h2
    · have h := p5 i hi
      refine ⟨?_, ?_, ?_⟩
      · rw [up_n _ _ (by omega)]
        by_cases e : i = f
        · rw [e, up_s]; omega
        · rw [up_n _ _ (by omega), up_n _ _ (by omega)]; exact h.1
      · by_cases e : i = f
        · rw [e, up_s]; exact hl2
        · rw [up_n _ _ (by omega), up_n _ _ (by omega), up_n _ _ (by omega)]; exact h.2.1
      · rw [up_n _ _ (by omega), up_n _ _ (by omega)]
        by_cases e : i = P f
        · rw [e, up_s]; omega
        · rw [up_n _ _ (by omega)]; exact h.2.2
    · rw [up_n _ _ (by omega), up_n _ _ (by omega), up_n _ _ (by omega)]; exact p6 i h1 h2
    · rw [up_n _ _ (by omega), up_n _ _ (by omega), up_n _ _ (by omega)]; exact p7
    · exact ⟨by rw [up_n _ _ (by omega), up_n _ _ (by omega), up_n _ _ (by omega)]; exact p8.1, fun j hj => by rw [up_n _ _ (by omega), up_n _ _ (by omega), up_n _ _ (by omega)]; exact p8.2 j hj⟩
theorem WP.step {T P : Nat → Nat} (hT : WT T) (hP : WP T P) : ∀ n, n ≤ T 1 → WP T (stepP T P n)
  | 0, _ => hP
  | n + 1, h => (WP.step hT hP n (by omega)).act hT (by omega)
theorem eat_le {T P : Nat → Nat} (hT : WT T) {f : Nat} (hf : f < 5) : eat T P f ≤ 9 := by
  have := (hT.2.2.2.1 f hf).2.2.2.1
  unfold eat bite
  split
  · omega
  · split <;> omega
theorem sumN_le {g : Nat → Nat} {b : Nat} : ∀ n, (∀ i, i < n → g i ≤ b) → sumN g n ≤ n * b
  | 0, _ => by simp [sumN]
  | n + 1, h => by
    have := sumN_le n fun i hi => h i (by omega)
    have := h n (by omega)
    show sumN g n + g n ≤ _
    rw [Nat.succ_mul]; omega
theorem m_steps {σ : qH} {m : Nat} {tr : Int64} {z : Nat → Int32} {T P : Nat → Nat} (h0 : σ.1 m = some (mC m tr z)) (h2 : σ.1 (m + 2) = some (iA 35 T)) (h4 : σ.1 (m + 4) = some (iA 22 P)) (hT : WT T) (hP : WP T P) :
    q_call 67 [.ref m] σ = some (some (.int (nI (stepE T P (T 1)))), q_upd σ (m + 4) (iA 22 (stepP T P (T 1)))) := by
  rw [k_67 h0, e_67_0]
  have h := q_for (fun i => q_run 67 4 [(0, .ref m), (1, .int (nI (stepE T P i))), (2, .int (nI i))] [] (q_upd σ (m + 4) (iA 22 (stepP T P i)))) (T 1) (fun i hi => ?_)
  · try dsimp only at h
    rw [show stepP T P 0 = P from rfl, u_self h4, show stepE T P 0 = 0 from rfl] at h
    rw [h, e_67_4]
    have h0a : (q_upd σ (m + 4) (iA 22 (stepP T P (T 1)))).1 m = some (mC m tr z) := (u_n _ _ (by omega)).trans h0
    have h2a : (q_upd σ (m + 4) (iA 22 (stepP T P (T 1)))).1 (m + 2) = some (iA 35 T) := (u_n _ _ (by omega)).trans h2
    have := hT.2.1
    rw [m_told h0a, q_obS, a_rd h2a (by decide) (by decide), q_obS, if_pos (nI_le (Nat.le_refl _) (by omega))]
  · try dsimp only
    have h0a : (q_upd σ (m + 4) (iA 22 (stepP T P i))).1 m = some (mC m tr z) := (u_n _ _ (by omega)).trans h0
    have h2a : (q_upd σ (m + 4) (iA 22 (stepP T P i))).1 (m + 2) = some (iA 35 T) := (u_n _ _ (by omega)).trans h2
    rw [m_act h0a h2a (u_s _ _ _) hT (hP.step hT i (by omega)) hi, u_u]
    rfl
end
section
/-! ===== the class: rooms, open rooms, a flock acts, a step ===== -/
theorem bits_step {c : Nat → Bool} {i : Nat} (hi : i < 5) : nI (bits c i) ||| (nI 1 <<< (nI i &&& 31)) = nI (bits c i ||| 2 ^ i) := by
  have := Nat.pow_le_pow_right (show 0 < 2 by decide) (show i ≤ 5 by omega)
  rw [n_shl (by omega) (by omega), Nat.one_mul, n_or]
theorem c_flocksIn {σ : qH} {p : Nat} {z : Int32} {T P : Nat → Nat} (h : σ.1 p = some (planC T z)) (hT : WT T) (hP : WP T P) {r : Nat} (hr : r < 2 ^ 31) :
    q_call 50 [.ref p, .int (nI (pkS P)), .int (nI r)] σ = some (some (.int (nI (inR T P r))), σ) := by
  have t1 := hT.2.1
  rw [k_50 h, e_50_0]
  refine (q_for (fun i => q_run 50 5 [(0, .ref p), (1, .int (nI (pkS P))), (2, .int (nI r)), (3, .int (nI (bits (fun f => P f == r) i))), (4, .int (nI i))] [] σ) (T 1) (fun i hi => ?_)).trans ?_
  · have hPi := hP.p8 hT i (by omega)
    rw [e_50_5, pl_flocks h, q_obS, if_neg (nI_ge hi (by omega)), c_spot (hP.p8 hT) (by omega), q_cIS, q_obS, e_50_31, e_50_31, nI_add]
    dsimp only
    by_cases hc : P i = r
    · rw [if_pos (by rw [hc]), bits_step (by omega), bits_t (c := fun f => P f == r) (by simpa using hc)]
    · rw [if_neg (fun q => hc ((nI_eq (by omega) hr).mp q)), bits_f (c := fun f => P f == r) (by simpa using hc)]
  · rw [e_50_5, pl_flocks h, q_obS, if_pos (nI_le (Nat.le_refl _) (by omega))]
    rfl
def strF (T P : Nat → Nat) : Nat := bits (fun f => !(P f == T (20 + f))) (T 1)
theorem c_strays {σ : qH} {p : Nat} {z : Int32} {T P : Nat → Nat} (h : σ.1 p = some (planC T z)) (hT : WT T) (hP : WP T P) :
    q_call 75 [.ref p, .int (nI (pkS P))] σ = some (some (.int (nI (strF T P))), σ) := by
  have t1 := hT.2.1
  rw [k_75 h, e_75_0]
  refine (q_for (fun i => q_run 75 4 [(0, .ref p), (1, .int (nI (pkS P))), (2, .int (nI (bits (fun f => !(P f == T (20 + f))) i))), (3, .int (nI i))] [] σ) (T 1) (fun i hi => ?_)).trans ?_
  · have hPi := hP.p8 hT i (by omega)
    have hTi := hT.l.2.2.2.2.2 i (by omega)
    rw [e_75_4, pl_flocks h, q_obS, if_neg (nI_ge hi (by omega)), c_spot (hP.p8 hT) (by omega), q_cIS, q_obS]
    dsimp only
    rw [pl_homes h, q_obS, c_spot hT.l.2.2.2.2.2 (by omega), q_cIS, q_obS, e_75_34, e_75_34, nI_add]
    dsimp only
    by_cases hc : P i = T (20 + i)
    · rw [if_pos (by rw [hc]), bits_f (c := fun f => !(P f == T (20 + f))) (by simpa using hc)]
    · rw [if_neg (fun q => hc ((nI_eq (by omega) (by omega)).mp q)), bits_step (by omega), bits_t (c := fun f => !(P f == T (20 + f))) (by simpa using hc)]
  · rw [e_75_4, pl_flocks h, q_obS, if_pos (nI_le (Nat.le_refl _) (by omega))]
    rfl
theorem pkL_inc (g : Nat → Nat) {r : Nat} (hr : r < 5) : pkL g + 2 ^ (8 * r) = pkL (up g r (g r + 1)) := by
  unfold pkL up
  rcases i5 hr with rfl | rfl | rfl | rfl | rfl <;> simp <;> omega
theorem c_openRooms {σ : qH} {p : Nat} {z : Int32} {T P : Nat → Nat} (h : σ.1 p = some (planC T z)) (hT : WT T) (hP : WP T P) :
    q_call 54 [.ref p, .int (nI (pkS P)), .int (nI (P 20))] σ = some (some (.int (nI (bits (opn T P) (T 0)))), σ) := by
  obtain ⟨t0, t1, t2, t5, t6, t7, t8, t9⟩ := id hT
  have hP20 : P 20 < 2 ^ 31 := Nat.lt_of_lt_of_le hP.2.2.2.2.1 (Nat.le_trans (pow_le5 t0) (by decide))
  have hc5 : ∀ i, i ≤ 5 → ∀ r, r < 5 → cnt (fun f => P f == r) i < 256 := fun i hi r _ => by have := cnt_le (fun f => P f == r) i; omega
  rw [k_54 h, e_54_0]
  have h1 := q_for (fun i => q_run 54 5 [(0, .ref p), (1, .int (nI (pkS P))), (2, .int (nI (P 20))), (3, .long (lN (pkL (fun r => cnt (fun f => P f == r) i)))), (5, .int (nI i))] [] σ) (T 1) (fun i hi => by
    have hPi := hP.p8 hT i (by omega)
    have hP5 : P i < 5 := by have := hP.1 i hi; omega
    rw [e_54_5, pl_flocks h, q_obS, if_neg (nI_ge hi (by omega)), c_spot (hP.p8 hT) (by omega), q_cIS, q_obS, nI_add]
    dsimp only
    rw [pk_mul, wb_shl 1 (k := 8 * P i) (by omega), Nat.one_mul, lN_add, pkL_inc _ hP5]
    congr 8
    refine pkL_congr fun r hr => ?_
    show up (fun r => cnt (fun f => P f == r) i) (P i) _ r = cnt (fun f => P f == r) i + (P i == r).toNat
    by_cases e : r = P i
    · subst e; rw [up_s]; simp
    · rw [up_n _ _ e]
      have : (P i == r) = false := by simpa using fun q => e q.symm
      rw [this]; rfl)
  refine Eq.trans h1 ?_
  rw [e_54_5, pl_flocks h, q_obS, if_pos (nI_le (Nat.le_refl _) (by omega))]
  refine (q_for (fun i => q_run 54 40 [(0, .ref p), (2, .int (nI (P 20))), (3, .long (lN (pkL (fun r => cnt (fun f => P f == r) (T 1))))), (5, .int (nI (bits (opn T P) i))), (6, .int (nI i))] [] σ) (T 0) (fun i hi => ?_)).trans ?_
  · have e85 : ∀ c, c = opn T P i → q_run 54 85 [(0, .ref p), (2, .int (nI (P 20))), (3, .long (lN (pkL (fun r => cnt (fun f => P f == r) (T 1))))), (5, .int (if c = true then nI (bits (opn T P) i ||| 2 ^ i) else nI (bits (opn T P) i))), (6, .int (nI i))] [] σ = q_run 54 40 [(0, .ref p), (2, .int (nI (P 20))), (3, .long (lN (pkL (fun r => cnt (fun f => P f == r) (T 1))))), (5, .int (nI (bits (opn T P) (i + 1)))), (6, .int (nI (i + 1)))] [] σ := by
      intro c hc
      rw [e_54_85, nI_add, hc]
      cases ho : opn T P i with
      | true => rw [if_pos rfl, bits_t ho]
      | false => rw [if_neg (by decide), bits_f ho]
    rw [e_54_40, pl_rooms h, q_obS, if_neg (nI_ge hi (by omega)), c_has hP20 (by omega), q_cIS, q_obS]
    dsimp only
    have hon : ones (inR T P i) = cnt (fun f => P f == i) (T 1) := ones_bits _ t1
    cases hg : (P 20).testBit i with
    | true =>
      rw [if_neg (show ¬ nI (true.toNat) = nI 0 by decide)]
      have := e85 false (by unfold opn; rw [hg]; rfl)
      rw [if_neg (by decide)] at this
      exact this
    | false =>
      have hc1 := hc5 (T 1) t1 i (by omega)
      have ht5 := (t5 i (by omega)).1
      rw [if_pos (show nI (false.toNat) = nI 0 from rfl), c_lane (f := fun r => cnt (fun f => P f == r) (T 1)) (hc5 (T 1) t1) (by omega), q_cIS, q_obS]
      dsimp only
      rw [pl_holds h, q_obS, c_lane hT.l.1 (by omega), q_cIS, q_obS]
      dsimp only
      by_cases ho : T (5 + i) ≤ cnt (fun f => P f == i) (T 1)
      · rw [if_pos (nI_le ho (by omega))]
        have := e85 false (by unfold opn; rw [hg, hon, decide_eq_false (Nat.not_lt.mpr ho)]; rfl)
        rw [if_neg (by decide)] at this
        exact this
      · rw [if_neg (fun q => ho ((nI_leI (by omega) (by omega)).mp q)), bits_step (by omega)]
        have := e85 true (by unfold opn; rw [hg, hon, decide_eq_true (Nat.not_le.mp ho)]; rfl)
        rw [if_pos rfl] at this
        exact this
  · rw [e_54_40, pl_rooms h, q_obS, if_pos (nI_le (Nat.le_refl _) (by omega))]
theorem c_carpeted {σ : qH} {x : Nat} {T P : Nat → Nat} (h : σ.1 x = some (evC P)) (hP : WP T P) :
    q_call 55 [.ref x] σ = some (some (.int (nI (bits (fun r => decide (0 < P (15 + r))) 5))), σ) := by
  rw [k_55 h, e_55_0]
  refine (q_for (fun i => q_run 55 4 [(0, .ref x), (1, .int (nI (bits (fun r => decide (0 < P (15 + r))) i))), (2, .int (nI i))] [] σ) 5 (fun i hi => ?_)).trans ?_
  · have hp := (hP.2.2.1 i hi).2.2
    rw [e_55_4, if_neg (nI_ge hi (by omega)), ev_carpets h, q_obS, c_lane hP.l.2.2 hi, q_cIS, q_obS, e_55_26, e_55_26, nI_add]
    dsimp only
    by_cases hc : P (15 + i) ≤ 0
    · rw [if_pos (nI_le hc (by omega)), bits_f (c := fun r => decide (0 < P (15 + r))) (by simpa using hc)]
    · rw [if_neg (fun q => hc ((nI_leI (by omega) (by omega)).mp q)), bits_step hi, bits_t (c := fun r => decide (0 < P (15 + r))) (by simp; omega)]
  · rw [e_55_4, if_pos (nI_le (Nat.le_refl 5) (by decide))]
theorem pkS_up {P : Nat → Nat} {i v : Nat} (hi : i < 5) : pkS (up P i v) = pkS (up (fun j => P j) i v) := rfl
theorem up_sh (P : Nat → Nat) (k i v : Nat) : (fun j => up P (k + i) v (k + j)) = up (fun j => P (k + j)) i v := by
  funext j
  unfold up
  by_cases e : j = i
  · rw [if_pos e, if_pos (by rw [e])]
  · rw [if_neg e, if_neg (by omega)]
theorem up_sk (P : Nat → Nat) {k n i v : Nat} (h : ∀ j, j < 5 → k + j ≠ n) : pkL (fun j => up P n v (k + j)) = pkL (fun j => P (k + j)) := pkL_congr fun j hj => up_n _ _ (h j hj)
theorem q_minN (a b : Nat) (ha : a < 2 ^ 31) (hb : b < 2 ^ 31) : q_min (nI a) (nI b) = nI (if b < a then b else a) := by
  unfold q_min
  by_cases h : b < a
  · rw [if_pos ((nI_ltI hb ha).mpr h), if_pos h]
  · rw [if_neg (fun q => h ((nI_ltI hb ha).mp q)), if_neg h]
/-- an evening after a flock has grazed -/
theorem c_graze {σ : qH} {x p : Nat} {z : Int32} {T P : Nat → Nat} (hx : σ.1 x = some (evC P)) (h : σ.1 p = some (planC T z)) (hxp : p ≠ x) (hT : WT T) (hP : WP T P) {f : Nat} (hf : f < T 1) (hm : moves T P f = false) :
    q_call 53 [.ref x, .ref p, .int (nI f), .int (nI (P f))] σ = some (some (.int (nI (eat T P f))), q_upd σ x (evC (actP T P f))) := by
  obtain ⟨t0, t1, t2, t5, t6, t7, t8, t9⟩ := id hT
  obtain ⟨p0, p1, p5, p6, p7, p8⟩ := id hP
  have hf5 : f < 5 := by omega
  have hr := p0 f hf
  have hr5 : P f < 5 := by omega
  have hle := (p5 (P f) hr5).2.2
  have hln := p5 f hf5
  have htf := t5 f hf5
  have hb9 : bite T P f ≤ 9 ∧ bite T P f ≤ P (15 + P f) := by
    unfold bite
    split <;> omega
  have eb : q_min (nI (T (25 + f))) (nI (P (15 + P f))) = nI (bite T P f) := q_minN _ _ (by omega) (by omega)
  have e2 : eat T P f = bite T P f := by unfold eat; rw [hm]; rfl
  have e3 : actP T P f = _ := if_neg (by rw [hm]; decide)
  have hdv : (P (5 + f) + bite T P f) / T 2 ≤ P (5 + f) + bite T P f := Nat.div_le_self _ _
  have hmd : (P (5 + f) + bite T P f) - (P (5 + f) + bite T P f) / T 2 * T 2 = (P (5 + f) + bite T P f) % T 2 := by
    have := Nat.div_add_mod (P (5 + f) + bite T P f) (T 2)
    rw [Nat.mul_comm] at this; omega
  have hml := Nat.mod_lt (P (5 + f) + bite T P f) (show 0 < T 2 by omega)
  have hmle : (P (5 + f) + bite T P f) / T 2 * T 2 ≤ P (5 + f) + bite T P f := Nat.div_mul_le_self _ _
  have hxe : σ.1 x = some (evR (nI (pkS P)) (lN (pkL (fun i => P (15 + i)))) (lN (pkL (fun i => P (5 + i)))) (lN (pkL (fun i => P (10 + i)))) (nI (P 20)) (nI (P 21))) := hx
  rw [k_53 hx, e_53_0, ev_carpets hxe, q_obS, c_lane hP.l.2.2 hr5, q_cIS, q_obS]
  dsimp only
  rw [pl_hungers h, q_obS, c_lane hT.l.2.2.2.1 hf5, q_cIS, q_obS]
  dsimp only
  rw [ev_eaten hxe, q_obS, c_lane hP.l.1 hf5, q_cIS, q_obS]
  dsimp only
  rw [pl_lambAt h, q_obS, if_pos (nI_le (by omega) (by omega)), q_obS, if_neg (fun q => absurd ((nI_eq (by omega) (by decide)).mp q) (by omega)), eb, nI_add, pk_div (by omega) (by omega) (by omega), e_53_57, ev_carpets hxe, q_obS, pk_sub hb9.2, c_withLane hP.l.2.2 hr5 (by omega), q_cLS, q_obS]
  dsimp only
  rw [evp_carpets hxe, q_obS]
  generalize hσ1 : q_upd σ x (evR (nI (pkS P)) (lN (pkL (up (fun i => P (15 + i)) (P f) (P (15 + P f) - bite T P f)))) (lN (pkL (fun i => P (5 + i)))) (lN (pkL (fun i => P (10 + i)))) (nI (P 20)) (nI (P 21))) = σ1
  have h1 : σ1.1 x = some (evR (nI (pkS P)) (lN (pkL (up (fun i => P (15 + i)) (P f) (P (15 + P f) - bite T P f)))) (lN (pkL (fun i => P (5 + i)))) (lN (pkL (fun i => P (10 + i)))) (nI (P 20)) (nI (P 21))) := by rw [← hσ1]; exact u_s ..
  have hp1 : σ1.1 p = some (planC T z) := by rw [← hσ1]; exact (u_n _ _ hxp).trans h
  rw [ev_eaten h1, q_obS, pl_lambAt hp1, q_obS, pk_mul, pk_sub hmle, hmd, c_withLane hP.l.1 hf5 (by omega), q_cLS, q_obS]
  dsimp only
  rw [evp_eaten h1, q_obS]
  generalize hσ2 : q_upd σ1 x (evR (nI (pkS P)) (lN (pkL (up (fun i => P (15 + i)) (P f) (P (15 + P f) - bite T P f)))) (lN (pkL (up (fun i => P (5 + i)) f ((P (5 + f) + bite T P f) % T 2)))) (lN (pkL (fun i => P (10 + i)))) (nI (P 20)) (nI (P 21))) = σ2
  have h2 : σ2.1 x = some (evR (nI (pkS P)) (lN (pkL (up (fun i => P (15 + i)) (P f) (P (15 + P f) - bite T P f)))) (lN (pkL (up (fun i => P (5 + i)) f ((P (5 + f) + bite T P f) % T 2)))) (lN (pkL (fun i => P (10 + i)))) (nI (P 20)) (nI (P 21))) := by rw [← hσ2]; exact u_s ..
  rw [ev_lambs h2, q_obS, q_obS, c_lane hP.l.2.1 hf5, q_cIS, q_obS]
  dsimp only
  have hv : q_min (nI 99) (nI (P (10 + f)) + nI ((P (5 + f) + bite T P f) / T 2)) = nI (if P (10 + f) + (P (5 + f) + bite T P f) / T 2 ≤ 99 then P (10 + f) + (P (5 + f) + bite T P f) / T 2 else 99) := by
    rw [nI_add, q_minN _ _ (by decide) (by omega)]
    congr 1
    by_cases hh : P (10 + f) + (P (5 + f) + bite T P f) / T 2 ≤ 99
    · rw [if_pos hh]; split <;> omega
    · rw [if_neg hh, if_neg (by omega)]
  have hv9 : (if P (10 + f) + (P (5 + f) + bite T P f) / T 2 ≤ 99 then P (10 + f) + (P (5 + f) + bite T P f) / T 2 else 99) < 256 := by split <;> omega
  rw [hv, c_withLane hP.l.2.1 hf5 hv9, q_cLS, q_obS]
  dsimp only
  rw [evp_lambs h2, q_obS, ← hσ2, ← hσ1, u_u, u_u, e2, e3]
  congr 3
  unfold evC
  rw [up_n _ _ (show 20 ≠ 10 + f by omega), up_n _ _ (show 20 ≠ 5 + f by omega), up_n _ _ (show 20 ≠ 15 + P f by omega), up_n _ _ (show 21 ≠ 10 + f by omega), up_n _ _ (show 21 ≠ 5 + f by omega), up_n _ _ (show 21 ≠ 15 + P f by omega)]
  congr 1
  · congr 1
    refine pkS_congr fun i hi => ?_
    rw [up_n _ _ (by omega), up_n _ _ (by omega), up_n _ _ (by omega)]
  · congr 1
    rw [← up_sh]
    refine pkL_congr fun i hi => ?_
    rw [up_n _ _ (show 15 + i ≠ 10 + f by omega), up_n _ _ (show 15 + i ≠ 5 + f by omega)]
  · congr 1
    rw [← up_sh]
    refine pkL_congr fun i hi => ?_
    rw [up_n _ _ (show 5 + i ≠ 10 + f by omega)]
    by_cases e : i = f
    · rw [e, up_s, up_s]
    · rw [up_n _ _ (by omega), up_n _ _ (by omega), up_n _ _ (by omega)]
  · congr 1
    rw [← up_sh]
    refine pkL_congr fun i hi => ?_
    by_cases e : i = f
    · rw [e, up_s, up_s]
    · rw [up_n _ _ (by omega), up_n _ _ (by omega), up_n _ _ (by omega), up_n _ _ (by omega)]
end
section
/-! ===== the class: a flock acts; a step of all ===== -/
theorem up_id (P : Nat → Nat) (i : Nat) : up P i (P i) = P := by
  funext j
  unfold up
  by_cases e : j = i
  · rw [if_pos e, e]
  · rw [if_neg e]
theorem and_lt {a b n : Nat} (h : a < 2 ^ n) : a &&& b < 2 ^ n := Nat.lt_of_le_of_lt Nat.and_le_left h
theorem evC_place {P : Nat → Nat} {f v : Nat} (hf : f < 5) : evC (up P f v) = evR (nI (pkS (up P f v))) (lN (pkL (fun i => P (15 + i)))) (lN (pkL (fun i => P (5 + i)))) (lN (pkL (fun i => P (10 + i)))) (nI (P 20)) (nI (P 21)) := by
  unfold evC
  rw [up_sk P (k := 15) (n := f) (v := v) (i := 0) (fun j hj => by omega), up_sk P (k := 5) (n := f) (v := v) (i := 0) (fun j hj => by omega), up_sk P (k := 10) (n := f) (v := v) (i := 0) (fun j hj => by omega), up_n _ _ (show 20 ≠ f by omega), up_n _ _ (show 21 ≠ f by omega)]
theorem c_act {σ : qH} {x p : Nat} {z : Int32} {T P : Nat → Nat} (hx : σ.1 x = some (evC P)) (h : σ.1 p = some (planC T z)) (hxp : p ≠ x) (hT : WT T) (hP : WP T P) {f : Nat} (hf : f < T 1) :
    q_call 57 [.ref x, .ref p, .int (nI f)] σ = some (some (.int (nI (eat T P f))), q_upd σ x (evC (actP T P f))) := by
  obtain ⟨t0, t1, t2, t5, t6, t7, t8, t9⟩ := id hT
  obtain ⟨p0, p1, p5, p6, p7, p8⟩ := id hP
  have hf5 : f < 5 := by omega
  have hr := p0 f hf
  have hr5 : P f < 5 := by omega
  have hP20 : P 20 < 2 ^ 31 := Nat.lt_of_lt_of_le p7 (Nat.le_trans (pow_le5 t0) (by decide))
  have hle := (p5 (P f) hr5).2.2
  have hd15 := (t5 (P f) hr5).2.2.1
  have hp5 := pow_le5 t0
  have hxe : σ.1 x = some (evR (nI (pkS P)) (lN (pkL (fun i => P (15 + i)))) (lN (pkL (fun i => P (5 + i)))) (lN (pkL (fun i => P (10 + i)))) (nI (P 20)) (nI (P 21))) := hx
  -- the end of a move, by the mask A
  have mv : ∀ A, A < 2 ^ T 0 → ∀ b : Bool, b = !(P 20).testBit (P f) → (∀ q, q < T 0 → A.testBit q = cand T P (P f) b q) → moves T P f = true →
      q_run 57 80 [(0, .ref x), (2, .int (nI f)), (5, .int (nI A))] [] σ = some (some (.int (nI (eat T P f))), q_upd σ x (evC (actP T P f))) := by
    intro A hA b hb hq hm
    have e2 : eat T P f = 0 := if_pos hm
    have e3 : actP T P f = up P f ((bey T P (P f) (!(P 20).testBit (P f))).getD (P f)) := if_pos hm
    have hbey : (if A = 0 then none else some (low A)) = bey T P (P f) b := by
      rw [low_F t0 hA]
      exact lowF_congr fun j _ hj => hq j (by omega)
    rw [e2, e3, ← hb, ← hbey, e_57_80]
    by_cases h0 : A = 0
    · rw [if_pos (by rw [h0]), if_pos h0, e_57_102]
      show _ = some (some (Value.int (nI 0)), q_upd σ x (evC (up P f (P f))))
      rw [up_id, u_self hx]
    · have hl := low_spec (show A < 32 by omega) h0
      rw [if_neg (fun q => h0 ((nI_eq (by omega) (by decide)).mp q)), if_neg h0, ev_places hxe, q_obS, c_lowest (by omega) h0, q_cIS, q_obS]
      dsimp only
      rw [c_withSpot (hP.p8 hT) hf5 (by omega), q_cIS, q_obS]
      dsimp only
      rw [evp_places hxe, q_obS, e_57_102, show (some (low A)).getD (P f) = low A from rfl, evC_place hf5]
  have tail : moves T P f = true → ∀ d : Bool, d = (P 20).testBit (P f) → q_run 57 43 [(0, .ref x), (1, .ref p), (2, .int (nI f)), (3, .int (nI (P f))), (4, .int (nI d.toNat))] [] σ = some (some (.int (nI (eat T P f))), q_upd σ x (evC (actP T P f))) := by
    intro hm d hd
    rw [e_57_43, pl_doors h, q_obS, c_lane hT.l.2.2.1 hr5, q_cIS, q_obS]
    dsimp only
    rw [ev_places hxe, q_obS, ev_dogs hxe, q_obS, c_openRooms h hT hP, q_cIS, q_obS]
    dsimp only
    rw [nx_and]
    cases d with
    | true =>
      rw [if_neg (show ¬ nI (true.toNat) = nI 0 by decide)]
      refine mv _ (and_lt hd15) false (by rw [← hd]; rfl) (fun q hq => ?_) hm
      rw [Nat.testBit_and, bits_tb]
      simp [cand, hq]
    | false =>
      rw [if_pos (show nI (false.toNat) = nI 0 from rfl), c_carpeted hx hP, q_cIS, q_obS]
      dsimp only
      rw [nx_and]
      refine mv _ (and_lt (and_lt hd15)) true (by rw [← hd]; rfl) (fun q hq => ?_) hm
      rw [Nat.testBit_and, Nat.testBit_and, bits_tb, bits_tb]
      simp [cand, hq, show q < 5 by omega]
  rw [k_57 hx, e_57_0, ev_places hxe, q_obS, c_spot (hP.p8 hT) hf5, q_cIS, q_obS]
  dsimp only
  rw [ev_dogs hxe, q_obS, c_has hP20 (by omega), q_cIS, q_obS]
  dsimp only
  cases hd : (P 20).testBit (P f) with
  | true =>
    rw [if_neg (show ¬ nI (true.toNat) = nI 0 by decide)]
    exact tail (by unfold moves; rw [hd]; rfl) true hd.symm
  | false =>
    rw [if_pos (show nI (false.toNat) = nI 0 from rfl), ev_carpets hxe, q_obS, c_lane hP.l.2.2 hr5, q_cIS, q_obS]
    dsimp only
    by_cases hc : P (15 + P f) ≤ 0
    · rw [if_pos (nI_le hc (by omega))]
      exact tail (by unfold moves; rw [Nat.le_zero.mp hc]; simp) false hd.symm
    · rw [if_neg (fun q => hc ((nI_leI (by omega) (by omega)).mp q)), c_graze hx h hxp hT hP hf (by unfold moves; rw [hd]; simp; omega), q_cIS, q_obS]
theorem c_pass {σ : qH} {x p : Nat} {z : Int32} {T P : Nat → Nat} (hx : σ.1 x = some (evC P)) (h : σ.1 p = some (planC T z)) (hxp : p ≠ x) (hT : WT T) (hP : WP T P) :
    q_call 58 [.ref x, .ref p] σ = some (some (.int (nI (stepE T P (T 1)))), q_upd σ x (evC (stepP T P (T 1)))) := by
  rw [k_58 hx, e_58_0]
  have hh := q_for (fun i => q_run 58 4 [(0, .ref x), (1, .ref p), (2, .int (nI (stepE T P i))), (3, .int (nI i))] [] (q_upd σ x (evC (stepP T P i)))) (T 1) (fun i hi => by
    have hxa : (q_upd σ x (evC (stepP T P i))).1 x = some (evC (stepP T P i)) := u_s ..
    have hpa : (q_upd σ x (evC (stepP T P i))).1 p = some (planC T z) := (u_n _ _ hxp).trans h
    have := hT.2.1
    rw [e_58_4, pl_flocks hpa, q_obS, if_neg (nI_ge hi (by omega)), c_act hxa hpa hxp hT (hP.step hT i (by omega)) hi, q_cIS, q_obS, u_u, nI_add, nI_add]
    rfl)
  rw [show stepP T P 0 = P from rfl, u_self hx] at hh
  refine Eq.trans hh ?_
  have hpa : (q_upd σ x (evC (stepP T P (T 1)))).1 p = some (planC T z) := (u_n _ _ hxp).trans h
  have := hT.2.1
  rw [e_58_4, pl_flocks hpa, q_obS, if_pos (nI_le (Nat.le_refl _) (by omega))]
end
section
/-! ===== the two objects' memory, as rows of cells: C (the class, 24 cells from x on; cell 2 is the plan, wherever it lies), D (the reference, 12 cells from x + 24 on) ===== -/
def upC (C : Nat → qE) (k : Nat) (e : qE) : Nat → qE := fun j => if j = k then e else C j
def XC (σ : qH) (x p : Nat) (C : Nat → qE) : Prop := (∀ k, k < 24 → k ≠ 2 → σ.1 (x + k) = some (C k)) ∧ σ.1 p = some (C 2) ∧ (p = x + 2 ∨ x + 36 ≤ p)
def MC (σ : qH) (x : Nat) (D : Nat → qE) : Prop := ∀ k, k < 12 → σ.1 (x + 24 + k) = some (D k)
theorem XC.at {σ : qH} {x p : Nat} {C : Nat → qE} (h : XC σ x p C) (k : Nat) (hk : k < 24) (h2 : k ≠ 2) : σ.1 (x + k) = some (C k) := h.1 k hk h2
theorem XC.upd {σ : qH} {x p : Nat} {C : Nat → qE} (h : XC σ x p C) {k : Nat} (hk : k < 24) (h2 : k ≠ 2) (e : qE) : XC (q_upd σ (x + k) e) x p (upC C k e) := by
  obtain ⟨h1, hp, ho⟩ := h
  refine ⟨fun j hj hj2 => ?_, ?_, ho⟩
  · by_cases e1 : j = k
    · subst e1
      rw [u_s]; simp [upC]
    · rw [u_n _ _ (by omega), h1 j hj hj2]; simp [upC, e1]
  · rw [u_n _ _ (by omega), hp]
    simp [upC, show (2 : Nat) ≠ k from fun q => h2 q.symm]
theorem XC.m {σ : qH} {x p : Nat} {C : Nat → qE} (h : XC σ x p C) {k : Nat} (hk : k < 12) (e : qE) : XC (q_upd σ (x + 24 + k) e) x p C := by
  obtain ⟨h1, hp, ho⟩ := h
  refine ⟨fun j hj hj2 => ?_, ?_, ho⟩
  · rw [u_n _ _ (by omega)]; exact h1 j hj hj2
  · rw [u_n _ _ (by omega)]; exact hp
theorem MC.upd {σ : qH} {x : Nat} {D : Nat → qE} (h : MC σ x D) {k : Nat} (e : qE) : MC (q_upd σ (x + 24 + k) e) x (upC D k e) := by
  intro j hj
  by_cases e1 : j = k
  · subst e1
    rw [u_s]; simp [upC]
  · rw [u_n _ _ (by omega), h j hj]; simp [upC, e1]
theorem MC.x {σ : qH} {x : Nat} {D : Nat → qE} (h : MC σ x D) {k : Nat} (hk : k < 24) (e : qE) : MC (q_upd σ (x + k) e) x D := by
  intro j hj
  rw [u_n _ _ (by omega)]; exact h j hj
def pk6 (f : Nat → Nat) : Nat := f 0 + 256 * f 1 + 65536 * f 2 + 16777216 * f 3 + 4294967296 * f 4 + 1099511627776 * f 5
def xC (x p : Nat) (n kp : Nat) (tr : Int64) : qE := .inl (6, [.ref (x + 1), .int (nI n), .ref p, .ref (x + 3), .ref (x + 4), .ref (x + 5), .ref (x + 17), .int (nI kp), .ref (x + 18), .ref (x + 19), .long tr])
def evX (e : qE) : Prop := ∃ a b c d g k, e = evR a b c d g k
def refs (n b : Nat) : qE := .inr (4, (n, .inr (.inr (.inr (.inr (fun j => if j < n then some (b + j) else none))))))
def paC (x nx kn : Nat) : qE := .inl (2, [.ref (x + 6), .int (nI nx), .int (nI kn)])
def grC (W : Nat → Nat) (no : Nat) (w : Int64) (a b c : Int32) : qE := .inl (1, [.long (lN (pk6 (fun i => W (2 * i)))), .long (lN (pk6 (fun i => W (2 * i + 1)))), .long w, .int (nI no), .int a, .int b, .int c])
def wbC (x : Nat) (e f g : Int32) : qE := .inl (5, [.ref (x + 20), .ref (x + 21), .int e, .int f, .int g])
def iF (n : Nat) (f : Nat → Int32) : qE := .inr (1, (n, .inl f))
def lF (n : Nat) (f : Nat → Int64) : qE := .inr (2, (n, .inr (.inl f)))
/-- the state that both objects hold: text, letters, told, now, past, how many, images, which kept, notes, how many -/
def XS (C : Nat → qE) (x p : Nat) (tx : Nat → Nat) (n : Nat) (T P : Nat → Nat) (Hs : Nat → Nat → Nat) (kn : Nat) (I : Nat → Nat → Nat) (kp : Nat → Bool) (W : Nat → Nat) (no : Nat) (tr : Int64) : Prop :=
  C 0 = xC x p n (bits kp 2) tr ∧ C 1 = .inr (0, (120, .inl (fun j => nI (tx j)))) ∧ (∃ z, C 2 = planC T z) ∧ C 3 = evC P ∧ evX (C 4) ∧
  (∃ nx, nx < 10 ∧ C 5 = paC x nx kn ∧ ∀ i, i < kn → C (7 + (nx + 10 - kn + i) % 10) = evC (Hs i)) ∧ C 6 = refs 10 (x + 7) ∧ (∀ j, j < 10 → evX (C (7 + j))) ∧
  C 17 = refs 2 (x + 22) ∧ (∃ w a b c, C 18 = grC W no w a b c) ∧ (∃ e f g, C 19 = wbC x e f g) ∧ (∃ f, C 20 = iF 3125 f) ∧ (∃ f, C 21 = lF 512 f) ∧ (∀ i, i < 2 → evX (C (22 + i))) ∧ (∀ i, i < 2 → kp i = true → C (22 + i) = evC (I i))
def MS (D : Nat → qE) (x : Nat) (tx : Nat → Nat) (n : Nat) (T P : Nat → Nat) (Hs : Nat → Nat → Nat) (kn : Nat) (I : Nat → Nat → Nat) (kp : Nat → Bool) (W : Nat → Nat) (no : Nat) (tr : Int64) : Prop :=
  (∃ z : Nat → Int32, D 0 = mC (x + 24) tr z ∧ z 0 = nI n ∧ z 1 = nI kn ∧ z 2 = nI no) ∧ D 1 = iA 120 tx ∧ D 2 = iA 35 T ∧ (∃ f, D 3 = iF 35 f) ∧ D 4 = iA 22 P ∧ (∃ f, D 5 = iF 220 f ∧ ∀ i, i < kn → ∀ k, k < 22 → f (22 * i + k) = nI (Hs i k)) ∧
  (∃ f, D 6 = iF 44 f ∧ ∀ i, i < 2 → kp i = true → ∀ k, k < 22 → f (22 * i + k) = nI (I i k)) ∧ D 7 = .inr (3, (2, .inl (fun j => nI (kp j).toNat))) ∧ D 8 = iA 12 W ∧ (∃ f, D 9 = iF 22 f) ∧ (∃ f, D 10 = lF 49 f) ∧ (∃ f, D 11 = lF 49 f)
def QI (tx : Nat → Nat) (n : Nat) (T P : Nat → Nat) (Hs : Nat → Nat → Nat) (kn : Nat) (I : Nat → Nat → Nat) (kp : Nat → Bool) (W : Nat → Nat) (no : Nat) : Prop :=
  n ≤ 120 ∧ (∀ j, tx j < 256) ∧ WT T ∧ WP T P ∧ kn ≤ 10 ∧ (∀ i, i < kn → WP T (Hs i)) ∧ (∀ i, i < 2 → kp i = true → WP T (I i)) ∧ no ≤ 6 ∧ (∀ i, W (2 * i) < 32 ∧ W (2 * i + 1) ≤ 45)
/-- both objects hold one state -/
def QW (σ : qH) (x p : Nat) (tx : Nat → Nat) (n : Nat) (T P : Nat → Nat) (Hs : Nat → Nat → Nat) (kn : Nat) (I : Nat → Nat → Nat) (kp : Nat → Bool) (W : Nat → Nat) (no : Nat) (tr : Int64) : Prop :=
  ∃ C D, XC σ x p C ∧ MC σ x D ∧ XS C x p tx n T P Hs kn I kp W no tr ∧ MS D x tx n T P Hs kn I kp W no tr ∧ QI tx n T P Hs kn I kp W no
/-- the law's step: what the two objects answer to one call is one number, and they hold one state again -/
def QA (σ : qH) (x : Nat) (kX kM : Nat) (as : List Value) (v : Value) (σ' : qH) : Prop := ∃ σ1, q_call kX (.ref x :: as) σ = some (some v, σ1) ∧ q_call kM (.ref (x + 24) :: as) σ1 = some (some v, σ')
-- reads of the class's object
section RX
variable {σ : qH} {x p n kp : Nat} {tr : Int64}
theorem x_text (h : σ.1 x = some (xC x p n kp tr)) : q_getR σ (.ref x) 6 0 = some (x + 1) := g_R h rfl
theorem x_letters (h : σ.1 x = some (xC x p n kp tr)) : q_getI σ (.ref x) 6 1 = some (nI n) := g_I h rfl
theorem x_plan (h : σ.1 x = some (xC x p n kp tr)) : q_getR σ (.ref x) 6 2 = some p := g_R h rfl
theorem x_evening (h : σ.1 x = some (xC x p n kp tr)) : q_getR σ (.ref x) 6 3 = some (x + 3) := g_R h rfl
theorem x_trial (h : σ.1 x = some (xC x p n kp tr)) : q_getR σ (.ref x) 6 4 = some (x + 4) := g_R h rfl
theorem x_past (h : σ.1 x = some (xC x p n kp tr)) : q_getR σ (.ref x) 6 5 = some (x + 5) := g_R h rfl
theorem x_images (h : σ.1 x = some (xC x p n kp tr)) : q_getR σ (.ref x) 6 6 = some (x + 17) := g_R h rfl
theorem x_kept (h : σ.1 x = some (xC x p n kp tr)) : q_getI σ (.ref x) 6 7 = some (nI kp) := g_I h rfl
theorem x_grazing (h : σ.1 x = some (xC x p n kp tr)) : q_getR σ (.ref x) 6 8 = some (x + 18) := g_R h rfl
theorem x_wayBack (h : σ.1 x = some (xC x p n kp tr)) : q_getR σ (.ref x) 6 9 = some (x + 19) := g_R h rfl
theorem x_traced (h : σ.1 x = some (xC x p n kp tr)) : q_getL σ (.ref x) 6 10 = some tr := g_L h rfl
theorem xp_letters (h : σ.1 x = some (xC x p n kp tr)) (y : Nat) : q_put σ (.ref x) 6 1 0 (.int (nI y)) = some (q_upd σ x (xC x p y kp tr)) := p_F h (show 1 < 11 by decide) rfl
theorem xp_kept (h : σ.1 x = some (xC x p n kp tr)) (y : Nat) : q_put σ (.ref x) 6 7 0 (.int (nI y)) = some (q_upd σ x (xC x p n y tr)) := p_F h (show 7 < 11 by decide) rfl
theorem xp_traced (h : σ.1 x = some (xC x p n kp tr)) (y : Int64) : q_put σ (.ref x) 6 10 1 (.long y) = some (q_upd σ x (xC x p n kp y)) := p_F h (show 10 < 11 by decide) rfl
theorem xp_plan (h : σ.1 x = some (xC x p n kp tr)) (y : Nat) : q_put σ (.ref x) 6 2 2 (.ref y) = some (q_upd σ x (xC x y n kp tr)) := p_F h (show 2 < 11 by decide) rfl
end RX
theorem u_0 (σ : qH) (x : Nat) (e : qE) : q_upd σ x e = q_upd σ (x + 0) e := rfl
theorem u_24 (σ : qH) (x : Nat) (e : qE) : q_upd σ (x + 24) e = q_upd σ (x + 24 + 0) e := rfl
end
section
/-! ===== the calls, one by one: trace, count, flock, clear, type, forget, tells ===== -/
def QV (σ : qH) (x : Nat) : Prop := ∃ p tx n T P Hs kn I kp W no tr, QW σ x p tx n T P Hs kn I kp W no tr
def QO (σ : qH) (x kX kM : Nat) (as : List Value) : Prop := ∃ v σ', QA σ x kX kM as v σ' ∧ QV σ' x ∧ (σ'.2.1 ≤ σ.2.1 + 2 ∧ σ'.2.2 ≤ σ.2.2 + 40) ∧ ∀ a, a < x → σ'.1 a = σ.1 a
theorem QO.ro {σ : qH} {x kX kM : Nat} {as : List Value} {v : Value} (h : QV σ x) (h1 : q_call kX (.ref x :: as) σ = some (some v, σ)) (h2 : q_call kM (.ref (x + 24) :: as) σ = some (some v, σ)) : QO σ x kX kM as :=
  ⟨v, σ, ⟨σ, h1, h2⟩, h, ⟨by omega, by omega⟩, fun _ _ => rfl⟩
theorem o_trace {σ : qH} {x : Nat} (h : QV σ x) : QO σ x 157 158 [] := by
  obtain ⟨p, tx, n, T, P, Hs, kn, I, kp, W, no, tr, C, D, hC, hD, hX, hM, hQ⟩ := id h
  have h0 : σ.1 x = some (xC x p n (bits kp 2) tr) := by rw [← hX.1]; exact hC.at 0 (by decide) (by decide)
  obtain ⟨⟨z, hz, -⟩, -⟩ := hM
  have m0 : σ.1 (x + 24) = some (mC (x + 24) tr z) := by rw [← hz]; exact hD 0 (by decide)
  refine QO.ro (v := .long tr) h ?_ ?_
  · rw [k_157 h0, e_157_0, x_traced h0, q_obS]
  · rw [k_158 m0, e_158_0, m_trace m0, q_obS]
theorem o_count {σ : qH} {x : Nat} (h : QV σ x) (w : Int32) : QO σ x 155 156 [.int w] := by
  obtain ⟨p, tx, n, T, P, Hs, kn, I, kp, W, no, tr, C, D, hC, hD, hX, hM, hQ⟩ := id h
  obtain ⟨x0, x1, ⟨zz, x2⟩, x3, x4, x5, x6, x7, x8, ⟨ww, a, b, c, x9⟩, x10⟩ := hX
  have h0 : σ.1 x = some (xC x p n (bits kp 2) tr) := by rw [← x0]; exact hC.at 0 (by decide) (by decide)
  have hp : σ.1 p = some (planC T zz) := by rw [← x2]; exact hC.2.1
  have hg : σ.1 (x + 18) = some (grC W no ww a b c) := by rw [← x9]; exact hC.at 18 (by decide) (by decide)
  obtain ⟨⟨z, hz, z0, z1, z2⟩, m1, m2, m3⟩ := hM
  have m0 : σ.1 (x + 24) = some (mC (x + 24) tr z) := by rw [← hz]; exact hD 0 (by decide)
  have m2 : σ.1 (x + 24 + 2) = some (iA 35 T) := by rw [← m2]; exact hD 2 (by decide)
  have hgt : q_getI σ (.ref (x + 18)) 1 3 = some (nI no) := g_I hg rfl
  refine QO.ro (v := .int (if w = nI 0 then nI (T 0) else if w = nI 1 then nI (T 1) else if w = nI 2 then nI (T 2) else if w = nI 3 then nI no else if w = nI 4 then nI n else -1)) h ?_ ?_
  · rw [k_155 h0, e_155_0]
    simp only [x_plan h0, x_grazing h0, x_letters h0, q_obS, pl_rooms hp, pl_flocks hp, pl_lambAt hp, hgt]
    repeat' split
    all_goals rfl
  · rw [k_156 m0, e_156_0]
    simp only [m_told m0, q_obS, a_rd m2 (show 0 < 35 by decide) (by decide), a_rd m2 (show 1 < 35 by decide) (by decide), a_rd m2 (show 2 < 35 by decide) (by decide), m_noted m0, m_typed m0, z0, z2]
    repeat' split
    all_goals rfl
theorem n_in {x : Int32} {N : Nat} (hN : N < 2 ^ 31) : (∃ j, j < N ∧ x = nI j) ∨ ((x < nI 0 ∨ nI N ≤ x) ∧ ∀ j, j < N → x ≠ nI j) := by
  rcases pk_ix x hN with h | h | h
  · exact Or.inr ⟨Or.inl h, fun j hj e => by rw [e] at h; exact absurd h (nI_pos (by omega))⟩
  · exact Or.inr ⟨Or.inr h, fun j hj e => by rw [e, nI_leI hN (by omega)] at h; omega⟩
  · exact Or.inl h
theorem c_hasFlock {σ : qH} {p : Nat} {z : Int32} {T : Nat → Nat} (h : σ.1 p = some (planC T z)) (f : Int32) : q_call 71 [.ref p, .int f] σ = some (some (.int (nI (decide (0 ≤ f ∧ f < nI (T 1))).toNat)), σ) := by
  rw [k_71 h, e_71_0, e_71_16, pl_flocks h, q_obS]
  by_cases h1 : f < nI 0
  · rw [if_pos h1, decide_eq_false (fun q => absurd h1 (Int32.not_lt.mpr q.1))]; rfl
  · rw [if_neg h1]
    by_cases h2 : nI (T 1) ≤ f
    · rw [if_pos h2, decide_eq_false (fun q => absurd q.2 (Int32.not_lt.mpr h2))]; rfl
    · rw [if_neg h2, decide_eq_true ⟨Int32.not_lt.mp h1, Int32.not_le.mp h2⟩]; rfl
theorem c_hasRoom {σ : qH} {p : Nat} {z : Int32} {T : Nat → Nat} (h : σ.1 p = some (planC T z)) (f : Int32) : q_call 28 [.ref p, .int f] σ = some (some (.int (nI (decide (0 ≤ f ∧ f < nI (T 0))).toNat)), σ) := by
  rw [k_28 h, e_28_0, e_28_16, pl_rooms h, q_obS]
  by_cases h1 : f < nI 0
  · rw [if_pos h1, decide_eq_false (fun q => absurd h1 (Int32.not_lt.mpr q.1))]; rfl
  · rw [if_neg h1]
    by_cases h2 : nI (T 0) ≤ f
    · rw [if_pos h2, decide_eq_false (fun q => absurd q.2 (Int32.not_lt.mpr h2))]; rfl
    · rw [if_neg h2, decide_eq_true ⟨Int32.not_lt.mp h1, Int32.not_le.mp h2⟩]; rfl
theorem okv4 (b : Bool) : q_okv 4 (.int (nI b.toNat)) = true := by cases b <;> decide +kernel
theorem n_pred_le {a : Nat} (ha : a < 2 ^ 30) (f : Int32) : (nI 0 ≤ f ∧ f ≤ nI a - nI 1) ↔ (0 ≤ f ∧ f < nI a) := by
  have e : (nI a - nI 1).toInt = (a : Int) - 1 := by rw [pk_sub_toInt ha (by decide)]; rfl
  have e2 : (nI a).toInt = (a : Int) := nI_toInt (by omega)
  constructor
  · rintro ⟨h1, h2⟩
    refine ⟨h1, ?_⟩
    rw [Int32.le_iff_toInt_le, e] at h2
    rw [Int32.lt_iff_toInt_lt, e2]; omega
  · rintro ⟨h1, h2⟩
    refine ⟨h1, ?_⟩
    rw [Int32.lt_iff_toInt_lt, e2] at h2
    rw [Int32.le_iff_toInt_le, e]; omega
theorem m_isFlock {σ : qH} {m : Nat} {tr : Int64} {z : Nat → Int32} {T : Nat → Nat} (h0 : σ.1 m = some (mC m tr z)) (h2 : σ.1 (m + 2) = some (iA 35 T)) (hT : T 1 ≤ 5) (f : Int32) : q_call 73 [.ref m, .int f] σ = some (some (.int (nI (decide (0 ≤ f ∧ f < nI (T 1))).toNat)), σ) := by
  rw [k_73 h0, e_73_0, m_told h0, q_obS, a_rd h2 (by decide) (by decide), q_obS, m_in, q_cIS, q_obS]
  dsimp only
  rw [okv4]
  simp only [n_pred_le (show T 1 < 2 ^ 30 by omega)]
  rfl
theorem m_isRoom {σ : qH} {m : Nat} {tr : Int64} {z : Nat → Int32} {T : Nat → Nat} (h0 : σ.1 m = some (mC m tr z)) (h2 : σ.1 (m + 2) = some (iA 35 T)) (hT : T 0 ≤ 5) (f : Int32) : q_call 61 [.ref m, .int f] σ = some (some (.int (nI (decide (0 ≤ f ∧ f < nI (T 0))).toNat)), σ) := by
  rw [k_61 h0, e_61_0, m_told h0, q_obS, a_rd h2 (by decide) (by decide), q_obS, m_in, q_cIS, q_obS]
  dsimp only
  rw [okv4]
  simp only [n_pred_le (show T 0 < 2 ^ 30 by omega)]
  rfl
theorem n_within {f : Int32} {a : Nat} (ha : a < 2 ^ 31) (h : 0 ≤ f ∧ f < nI a) : ∃ j, j < a ∧ f = nI j := by
  rcases n_in (x := f) ha with g | ⟨g | g, -⟩
  · exact g
  · exact absurd g (Int32.not_lt.mpr h.1)
  · exact absurd h.2 (Int32.not_lt.mpr g)
theorem o_flock {σ : qH} {x : Nat} (h : QV σ x) (f w : Int32) : QO σ x 72 74 [.int f, .int w] := by
  obtain ⟨p, tx, n, T, P, Hs, kn, I, kp, W, no, tr, C, D, hC, hD, hX, hM, hQ⟩ := id h
  obtain ⟨x0, x1, ⟨zz, x2⟩, x3, x4⟩ := hX
  obtain ⟨q1, q2, hT, hP, q3⟩ := hQ
  have h0 : σ.1 x = some (xC x p n (bits kp 2) tr) := by rw [← x0]; exact hC.at 0 (by decide) (by decide)
  have hp : σ.1 p = some (planC T zz) := by rw [← x2]; exact hC.2.1
  have he : σ.1 (x + 3) = some (evR (nI (pkS P)) (lN (pkL (fun i => P (15 + i)))) (lN (pkL (fun i => P (5 + i)))) (lN (pkL (fun i => P (10 + i)))) (nI (P 20)) (nI (P 21))) := by rw [show evR _ _ _ _ _ _ = evC P from rfl, ← x3]; exact hC.at 3 (by decide) (by decide)
  obtain ⟨⟨z, hz, z0, z1, z2⟩, m1, m2, m3, m4, m5⟩ := hM
  have m0 : σ.1 (x + 24) = some (mC (x + 24) tr z) := by rw [← hz]; exact hD 0 (by decide)
  have m2 : σ.1 (x + 24 + 2) = some (iA 35 T) := by rw [← m2]; exact hD 2 (by decide)
  have m4 : σ.1 (x + 24 + 4) = some (iA 22 P) := by rw [← m4]; exact hD 4 (by decide)
  have t1 := hT.2.1
  by_cases hf : 0 ≤ f ∧ f < nI (T 1)
  · obtain ⟨i, hi, rfl⟩ := n_within (by omega) hf
    have hi5 : i < 5 := by omega
    refine QO.ro (v := .int (if w = nI 0 then nI (T (20 + i)) else if w = nI 1 then nI (T (25 + i)) else if w = nI 2 then nI (T (30 + i)) else if w = nI 3 then nI (P i) else if w = nI 4 then nI (P (5 + i)) else if w = nI 5 then nI (P (10 + i)) else -1)) h ?_ ?_
    · rw [k_72 h0, e_72_0, x_plan h0, q_obS, c_hasFlock hp, q_cIS, q_obS, decide_eq_true hf]
      dsimp only
      rw [if_neg (show ¬ nI (true.toNat) = nI 0 by decide)]
      simp only [x_plan h0, x_evening h0, q_obS, pl_homes hp, pl_hungers hp, pl_stuffs hp, ev_places he, ev_eaten he, ev_lambs he, c_spot hT.l.2.2.2.2.2 hi5, c_lane hT.l.2.2.2.1 hi5, c_lane hT.l.2.2.2.2.1 hi5, c_spot (hP.p8 hT) hi5, c_lane hP.l.1 hi5, c_lane hP.l.2.1 hi5, q_cIS]
      repeat' split
      all_goals rfl
    · rw [k_74 m0, e_74_0, m_isFlock m0 m2 t1, q_cIS, q_obS, decide_eq_true hf]
      dsimp only
      rw [if_neg (show ¬ nI (true.toNat) = nI 0 by decide)]
      simp (disch := omega) only [m_told m0, m_s m0, q_obS, nI_add, a_rd m2, a_rd m4]
      repeat' split
      all_goals rfl
  · refine QO.ro (v := .int (-1)) h ?_ ?_
    · rw [k_72 h0, e_72_0, x_plan h0, q_obS, c_hasFlock hp, q_cIS, q_obS, decide_eq_false hf]
      rfl
    · rw [k_74 m0, e_74_0, m_isFlock m0 m2 t1, q_cIS, q_obS, decide_eq_false hf]
      rfl
end
section
/-! ===== a cell of the class's memory changed; more calls ===== -/
theorem upC_n (C : Nat → qE) {k j : Nat} (e : qE) (h : j ≠ k) : upC C k e j = C j := if_neg h
theorem XS.up0 {C : Nat → qE} {x p : Nat} {tx : Nat → Nat} {n : Nat} {T P : Nat → Nat} {Hs : Nat → Nat → Nat} {kn : Nat} {I : Nat → Nat → Nat} {kp : Nat → Bool} {W : Nat → Nat} {no : Nat} {tr : Int64} (h : XS C x p tx n T P Hs kn I kp W no tr) (n2 : Nat) (tr2 : Int64) : XS (upC C 0 (xC x p n2 (bits kp 2) tr2)) x p tx n2 T P Hs kn I kp W no tr2 := by
  obtain ⟨x0, x1, x2, x3, x4, x5, x6, x7, x8, x9, xa, xb, xc, xd, xe⟩ := h
  refine ⟨rfl, x1, x2, x3, x4, ?_, x6, fun j hj => by rw [upC_n _ _ (by omega)]; exact x7 j hj, x8, x9, xa, xb, xc, fun i hi => by rw [upC_n _ _ (by omega)]; exact xd i hi, fun i hi hk => by rw [upC_n _ _ (by omega)]; exact xe i hi hk⟩
  obtain ⟨nx, g1, g2, g3⟩ := x5
  exact ⟨nx, g1, g2, fun i hi => by rw [upC_n _ _ (by omega)]; exact g3 i hi⟩
theorem XS.up1 {C : Nat → qE} {x p : Nat} {tx : Nat → Nat} {n : Nat} {T P : Nat → Nat} {Hs : Nat → Nat → Nat} {kn : Nat} {I : Nat → Nat → Nat} {kp : Nat → Bool} {W : Nat → Nat} {no : Nat} {tr : Int64} (h : XS C x p tx n T P Hs kn I kp W no tr) (tx2 : Nat → Nat) : XS (upC C 1 (.inr (0, (120, .inl (fun j => nI (tx2 j)))))) x p tx2 n T P Hs kn I kp W no tr := by
  obtain ⟨x0, x1, x2, x3, x4, x5, x6, x7, x8, x9, xa, xb, xc, xd, xe⟩ := h
  refine ⟨x0, rfl, x2, x3, x4, ?_, x6, fun j hj => by rw [upC_n _ _ (by omega)]; exact x7 j hj, x8, x9, xa, xb, xc, fun i hi => by rw [upC_n _ _ (by omega)]; exact xd i hi, fun i hi hk => by rw [upC_n _ _ (by omega)]; exact xe i hi hk⟩
  obtain ⟨nx, g1, g2, g3⟩ := x5
  exact ⟨nx, g1, g2, fun i hi => by rw [upC_n _ _ (by omega)]; exact g3 i hi⟩
theorem XS.up3 {C : Nat → qE} {x p : Nat} {tx : Nat → Nat} {n : Nat} {T P : Nat → Nat} {Hs : Nat → Nat → Nat} {kn : Nat} {I : Nat → Nat → Nat} {kp : Nat → Bool} {W : Nat → Nat} {no : Nat} {tr : Int64} (h : XS C x p tx n T P Hs kn I kp W no tr) (P2 : Nat → Nat) : XS (upC C 3 (evC P2)) x p tx n T P2 Hs kn I kp W no tr := by
  obtain ⟨x0, x1, x2, x3, x4, x5, x6, x7, x8, x9, xa, xb, xc, xd, xe⟩ := h
  refine ⟨x0, x1, x2, rfl, x4, ?_, x6, fun j hj => by rw [upC_n _ _ (by omega)]; exact x7 j hj, x8, x9, xa, xb, xc, fun i hi => by rw [upC_n _ _ (by omega)]; exact xd i hi, fun i hi hk => by rw [upC_n _ _ (by omega)]; exact xe i hi hk⟩
  obtain ⟨nx, g1, g2, g3⟩ := x5
  exact ⟨nx, g1, g2, fun i hi => by rw [upC_n _ _ (by omega)]; exact g3 i hi⟩
theorem XS.up4 {C : Nat → qE} {x p : Nat} {tx : Nat → Nat} {n : Nat} {T P : Nat → Nat} {Hs : Nat → Nat → Nat} {kn : Nat} {I : Nat → Nat → Nat} {kp : Nat → Bool} {W : Nat → Nat} {no : Nat} {tr : Int64} (h : XS C x p tx n T P Hs kn I kp W no tr) {e : qE} (he : evX e) : XS (upC C 4 e) x p tx n T P Hs kn I kp W no tr := by
  obtain ⟨x0, x1, x2, x3, x4, x5, x6, x7, x8, x9, xa, xb, xc, xd, xe⟩ := h
  refine ⟨x0, x1, x2, x3, he, ?_, x6, fun j hj => by rw [upC_n _ _ (by omega)]; exact x7 j hj, x8, x9, xa, xb, xc, fun i hi => by rw [upC_n _ _ (by omega)]; exact xd i hi, fun i hi hk => by rw [upC_n _ _ (by omega)]; exact xe i hi hk⟩
  obtain ⟨nx, g1, g2, g3⟩ := x5
  exact ⟨nx, g1, g2, fun i hi => by rw [upC_n _ _ (by omega)]; exact g3 i hi⟩
theorem XS.up18 {C : Nat → qE} {x p : Nat} {tx : Nat → Nat} {n : Nat} {T P : Nat → Nat} {Hs : Nat → Nat → Nat} {kn : Nat} {I : Nat → Nat → Nat} {kp : Nat → Bool} {W : Nat → Nat} {no : Nat} {tr : Int64} (h : XS C x p tx n T P Hs kn I kp W no tr) {e : qE} {W2 : Nat → Nat} {no2 : Nat} (he : ∃ w a b c, e = grC W2 no2 w a b c) : XS (upC C 18 e) x p tx n T P Hs kn I kp W2 no2 tr := by
  obtain ⟨x0, x1, x2, x3, x4, x5, x6, x7, x8, x9, xa, xb, xc, xd, xe⟩ := h
  refine ⟨x0, x1, x2, x3, x4, ?_, x6, fun j hj => by rw [upC_n _ _ (by omega)]; exact x7 j hj, x8, he, xa, xb, xc, fun i hi => by rw [upC_n _ _ (by omega)]; exact xd i hi, fun i hi hk => by rw [upC_n _ _ (by omega)]; exact xe i hi hk⟩
  obtain ⟨nx, g1, g2, g3⟩ := x5
  exact ⟨nx, g1, g2, fun i hi => by rw [upC_n _ _ (by omega)]; exact g3 i hi⟩
theorem XS.up19 {C : Nat → qE} {x p : Nat} {tx : Nat → Nat} {n : Nat} {T P : Nat → Nat} {Hs : Nat → Nat → Nat} {kn : Nat} {I : Nat → Nat → Nat} {kp : Nat → Bool} {W : Nat → Nat} {no : Nat} {tr : Int64} (h : XS C x p tx n T P Hs kn I kp W no tr) {e : qE} (he : ∃ a f g, e = wbC x a f g) : XS (upC C 19 e) x p tx n T P Hs kn I kp W no tr := by
  obtain ⟨x0, x1, x2, x3, x4, x5, x6, x7, x8, x9, xa, xb, xc, xd, xe⟩ := h
  refine ⟨x0, x1, x2, x3, x4, ?_, x6, fun j hj => by rw [upC_n _ _ (by omega)]; exact x7 j hj, x8, x9, he, xb, xc, fun i hi => by rw [upC_n _ _ (by omega)]; exact xd i hi, fun i hi hk => by rw [upC_n _ _ (by omega)]; exact xe i hi hk⟩
  obtain ⟨nx, g1, g2, g3⟩ := x5
  exact ⟨nx, g1, g2, fun i hi => by rw [upC_n _ _ (by omega)]; exact g3 i hi⟩
theorem XS.up20 {C : Nat → qE} {x p : Nat} {tx : Nat → Nat} {n : Nat} {T P : Nat → Nat} {Hs : Nat → Nat → Nat} {kn : Nat} {I : Nat → Nat → Nat} {kp : Nat → Bool} {W : Nat → Nat} {no : Nat} {tr : Int64} (h : XS C x p tx n T P Hs kn I kp W no tr) {e : qE} (he : ∃ f, e = iF 3125 f) : XS (upC C 20 e) x p tx n T P Hs kn I kp W no tr := by
  obtain ⟨x0, x1, x2, x3, x4, x5, x6, x7, x8, x9, xa, xb, xc, xd, xe⟩ := h
  refine ⟨x0, x1, x2, x3, x4, ?_, x6, fun j hj => by rw [upC_n _ _ (by omega)]; exact x7 j hj, x8, x9, xa, he, xc, fun i hi => by rw [upC_n _ _ (by omega)]; exact xd i hi, fun i hi hk => by rw [upC_n _ _ (by omega)]; exact xe i hi hk⟩
  obtain ⟨nx, g1, g2, g3⟩ := x5
  exact ⟨nx, g1, g2, fun i hi => by rw [upC_n _ _ (by omega)]; exact g3 i hi⟩
theorem XS.up21 {C : Nat → qE} {x p : Nat} {tx : Nat → Nat} {n : Nat} {T P : Nat → Nat} {Hs : Nat → Nat → Nat} {kn : Nat} {I : Nat → Nat → Nat} {kp : Nat → Bool} {W : Nat → Nat} {no : Nat} {tr : Int64} (h : XS C x p tx n T P Hs kn I kp W no tr) {e : qE} (he : ∃ f, e = lF 512 f) : XS (upC C 21 e) x p tx n T P Hs kn I kp W no tr := by
  obtain ⟨x0, x1, x2, x3, x4, x5, x6, x7, x8, x9, xa, xb, xc, xd, xe⟩ := h
  refine ⟨x0, x1, x2, x3, x4, ?_, x6, fun j hj => by rw [upC_n _ _ (by omega)]; exact x7 j hj, x8, x9, xa, xb, he, fun i hi => by rw [upC_n _ _ (by omega)]; exact xd i hi, fun i hi hk => by rw [upC_n _ _ (by omega)]; exact xe i hi hk⟩
  obtain ⟨nx, g1, g2, g3⟩ := x5
  exact ⟨nx, g1, g2, fun i hi => by rw [upC_n _ _ (by omega)]; exact g3 i hi⟩
theorem o_clear {σ : qH} {x : Nat} (h : QV σ x) : QO σ x 20 21 [] := by
  obtain ⟨p, tx, n, T, P, Hs, kn, I, kp, W, no, tr, C, D, hC, hD, hX, hM, hQ⟩ := id h
  have h0 : σ.1 x = some (xC x p n (bits kp 2) tr) := by rw [← hX.1]; exact hC.at 0 (by decide) (by decide)
  obtain ⟨⟨z, hz, z0, z1, z2⟩, hM⟩ := hM
  have m0 : σ.1 (x + 24) = some (mC (x + 24) tr z) := by rw [← hz]; exact hD 0 (by decide)
  have m0' : (q_upd σ x (xC x p 0 (bits kp 2) tr)).1 (x + 24) = some (mC (x + 24) tr z) := (u_n _ _ (by omega)).trans m0
  refine ⟨.int (nI n), q_upd (q_upd σ x (xC x p 0 (bits kp 2) tr)) (x + 24) (mC (x + 24) tr (upI z 0 (nI 0))), ⟨q_upd σ x (xC x p 0 (bits kp 2) tr), ?_, ?_⟩, ⟨p, tx, 0, T, P, Hs, kn, I, kp, W, no, tr, upC C 0 (xC x p 0 (bits kp 2) tr), upC D 0 (mC (x + 24) tr (upI z 0 (nI 0))), (hC.upd (k := 0) (by decide) (by decide) _).m (k := 0) (by decide) _, (hD.x (k := 0) (by decide) _).upd (k := 0) _, hX.up0 0 tr, ⟨⟨upI z 0 (nI 0), rfl, rfl, z1, z2⟩, hM⟩, ⟨Nat.zero_le _, hQ.2⟩⟩, ⟨by show σ.2.1 ≤ _; omega, by show σ.2.2 ≤ _; omega⟩, fun a ha => ?_⟩
  · rw [k_20 h0, e_20_0, x_letters h0, q_obS, xp_letters h0, q_obS]
  · rw [k_21 m0', e_21_0, m_typed m0', q_obS, mp_typed m0', q_obS, z0]
  · rw [u_n _ _ (by omega), u_n _ _ (by omega)]
theorem w_kind {σ : qH} {a n k : Nat} {P : Nat → Nat} (h : σ.1 a = some (.inr (k, (n, .inl (fun j => nI (P j)))))) {j : Nat} (hj : j < n) (hn : n < 2 ^ 31) (v : Nat) : q_astI σ (.ref a) k (nI j) (nI v) = some (q_upd σ a (.inr (k, (n, .inl (fun i => nI (up P j v i)))))) := by
  unfold q_astI q_arr
  simp only [h, if_true]
  rw [if_neg (nI_in hj hn), upd_nI P (by omega) v]
theorem l_kind {σ : qH} {a n k : Nat} {f : Nat → Int32} (h : σ.1 a = some (.inr (k, (n, .inl f)))) : q_alen σ (.ref a) k = some (nI n) := by
  unfold q_alen q_arr
  simp only [h, if_true]
  rfl
theorem n_char {c : Nat} (hc : c < 65536) : vp_nar .char (Int32.toUInt32 (nI c) % 65536).toInt32 = nI c := by
  rw [pk_vc, pk_char]
  congr 1
  show (BitVec.ofNat 32 c).toNat % 65536 = c
  rw [BitVec.toNat_ofNat]
  omega
theorem o_type {σ : qH} {x : Nat} (h : QV σ x) (c : Int32) : QO σ x 18 19 [.int c] := by
  obtain ⟨p, tx, n, T, P, Hs, kn, I, kp, W, no, tr, C, D, hC, hD, hX, hM, hQ⟩ := id h
  have h0 : σ.1 x = some (xC x p n (bits kp 2) tr) := by rw [← hX.1]; exact hC.at 0 (by decide) (by decide)
  have h1 : σ.1 (x + 1) = some (.inr (0, (120, .inl (fun j => nI (tx j))))) := by rw [← hX.2.1]; exact hC.at 1 (by decide) (by decide)
  obtain ⟨⟨z, hz, z0, z1, z2⟩, d1, hM⟩ := hM
  obtain ⟨hn, htx, hQ⟩ := hQ
  have m0 : σ.1 (x + 24) = some (mC (x + 24) tr z) := by rw [← hz]; exact hD 0 (by decide)
  have m1 : σ.1 (x + 24 + 1) = some (iA 120 tx) := by rw [← d1]; exact hD 1 (by decide)
  rcases n_in (x := c) (N := 256) (by decide) with ⟨j, hj, rfl⟩ | ⟨hc, -⟩
  · by_cases hn2 : n < 120
    · have h1a : (q_upd σ (x + 1) (.inr (0, (120, .inl (fun i => nI (up tx n j i)))))).1 x = some (xC x p n (bits kp 2) tr) := (u_n _ _ (by omega)).trans h0
      have h1b : (q_upd (q_upd σ (x + 1) (.inr (0, (120, .inl (fun i => nI (up tx n j i)))))) x (xC x p (n + 1) (bits kp 2) tr)).1 x = some (xC x p (n + 1) (bits kp 2) tr) := u_s ..
      have e1 : q_call 18 [.ref x, .int (nI j)] σ = some (some (.int (nI (n + 1))), q_upd (q_upd σ (x + 1) (.inr (0, (120, .inl (fun i => nI (up tx n j i)))))) x (xC x p (n + 1) (bits kp 2) tr)) := by
        rw [k_18 h0, e_18_0, if_neg (show ¬ nI j < nI 0 from nI_pos (by omega)), if_pos (nI_le (by omega) (by omega)), x_letters h0, q_obS, if_neg (show ¬ nI n < nI 0 from nI_pos (by omega)), q_obS, x_text h0, q_obS, l_kind h1, q_obS, if_pos (nI_lt hn2 (by decide)), q_obS, q_obS, n_char (by omega), w_kind h1 hn2 (by decide), q_obS, x_letters h1a, q_obS, nI_add, xp_letters h1a, q_obS, x_letters h1b, q_obS]
      generalize hσ1 : q_upd (q_upd σ (x + 1) (.inr (0, (120, .inl (fun i => nI (up tx n j i)))))) x (xC x p (n + 1) (bits kp 2) tr) = σ1 at e1
      have m0a : σ1.1 (x + 24) = some (mC (x + 24) tr z) := by rw [← hσ1]; exact (u_n _ _ (by omega)).trans ((u_n _ _ (by omega)).trans m0)
      have m1a : σ1.1 (x + 24 + 1) = some (iA 120 tx) := by rw [← hσ1]; exact (u_n _ _ (by omega)).trans ((u_n _ _ (by omega)).trans m1)
      have m0b : (q_upd σ1 (x + 24 + 1) (iA 120 (up tx n j))).1 (x + 24) = some (mC (x + 24) tr z) := (u_n _ _ (by omega)).trans m0a
      have m0c : (q_upd (q_upd σ1 (x + 24 + 1) (iA 120 (up tx n j))) (x + 24) (mC (x + 24) tr (upI z 0 (nI (n + 1))))).1 (x + 24) = some (mC (x + 24) tr (upI z 0 (nI (n + 1)))) := u_s ..
      refine ⟨.int (nI (n + 1)), q_upd (q_upd σ1 (x + 24 + 1) (iA 120 (up tx n j))) (x + 24) (mC (x + 24) tr (upI z 0 (nI (n + 1)))), ⟨σ1, e1, ?_⟩, ⟨p, up tx n j, n + 1, T, P, Hs, kn, I, kp, W, no, tr, upC (upC C 1 (.inr (0, (120, .inl (fun i => nI (up tx n j i)))))) 0 (xC x p (n + 1) (bits kp 2) tr), upC (upC D 1 (iA 120 (up tx n j))) 0 (mC (x + 24) tr (upI z 0 (nI (n + 1)))), ?_, ?_, (hX.up1 (up tx n j)).up0 (n + 1) tr, ⟨⟨upI z 0 (nI (n + 1)), rfl, rfl, z1, z2⟩, rfl, hM⟩, ⟨by omega, fun i => ?_, hQ⟩⟩, ⟨by rw [← hσ1]; show σ.2.1 ≤ _; omega, by rw [← hσ1]; show σ.2.2 ≤ _; omega⟩, fun a ha => ?_⟩
      · rw [k_19 m0a, e_19_0, m_in, q_cIS, q_obS]
        dsimp only
        rw [decide_eq_true ⟨nI_le (Nat.zero_le _) (by omega), nI_le (show j ≤ 255 by omega) (by decide)⟩, if_neg (show ¬ nI (true.toNat) = nI 0 by decide), m_typed m0a, q_obS, z0, if_neg (fun q => absurd ((nI_eq (by omega) (by decide)).mp q) (by omega)), m_text m0a, q_obS, q_obS, a_wr m1a hn2 (by decide), q_obS, m_typed m0b, q_obS, z0, nI_add, mp_typed m0b, q_obS, m_typed m0c, q_obS]
        rfl
      · rw [← hσ1]
        exact (((hC.upd (k := 1) (by decide) (by decide) _).upd (k := 0) (by decide) (by decide) _).m (k := 1) (by decide) _).m (k := 0) (by decide) _
      · rw [← hσ1]
        exact ((((hD.x (k := 1) (by decide) _).x (k := 0) (by decide) _)).upd (k := 1) _).upd (k := 0) _
      · unfold up; split
        · omega
        · exact htx i
      · rw [u_n _ _ (by omega), u_n _ _ (by omega), ← hσ1, u_n _ _ (by omega), u_n _ _ (by omega)]
    · have e : n = 120 := by omega
      subst e
      refine QO.ro (v := .int (-3)) h ?_ ?_
      · rw [k_18 h0, e_18_0, if_neg (show ¬ nI j < nI 0 from nI_pos (by omega)), if_pos (nI_le (by omega) (by omega)), x_letters h0, q_obS, if_neg (show ¬ nI 120 < nI 0 by decide), q_obS, x_text h0, q_obS, l_kind h1, q_obS, if_neg (by decide), e_18_32]
      · rw [k_19 m0, e_19_0, m_in, q_cIS, q_obS]
        dsimp only
        rw [decide_eq_true ⟨nI_le (Nat.zero_le _) (by omega), nI_le (show j ≤ 255 by omega) (by decide)⟩, if_neg (show ¬ nI (true.toNat) = nI 0 by decide), m_typed m0, q_obS, z0, if_pos rfl]
  · refine QO.ro (v := .int (-1)) h ?_ ?_
    · rw [k_18 h0, e_18_0]
      by_cases g : c < nI 0
      · rw [if_pos g, e_18_11]
      · rw [if_neg g, if_neg (fun q => ?_), e_18_11]
        rcases hc with hc | hc
        · exact g hc
        · exact absurd (Int32.le_trans hc q) (by decide)
    · rw [k_19 m0, e_19_0, m_in, q_cIS, q_obS]
      dsimp only
      rw [decide_eq_false (fun q => ?_), if_pos (show nI (false.toNat) = nI 0 from rfl)]
      rcases hc with hc | hc
      · exact absurd hc (Int32.not_lt.mpr q.1)
      · exact absurd (Int32.le_trans hc q.2) (by decide)
end
