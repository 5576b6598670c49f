section
-- ===== PART A: goes FIRST, ahead of the names: the tables' words, and 'selects' of the private methods out of them =====
/-- a private method of a class that the tables say can be made, by its rows of tables_1 -/
def lw_okq (q : MethodName × Nat) : Prop := (q.1.cls ≠ "java/lang/invoke/MethodHandle" ∧ q.1.cls ≠ "java/lang/invoke/VarHandle") ∧ Cond.instantiable q.1.cls q.2 ∈ tables_1 ∧ Cond.privateMethod q.1 ∈ tables_1 ∧ Cond.instanceMethod q.1 ∈ tables_1
theorem lw_p0 : lw_okq (⟨"PlushFlocks$Reader", "isTokenStart", "(I)Z"⟩, 9) := ⟨⟨by decide +kernel, by decide +kernel⟩, List.mem_of_getElem? (i := 240) (by decide +kernel), List.mem_of_getElem? (i := 285) (by decide +kernel), List.mem_of_getElem? (i := 286) (by decide +kernel)⟩
theorem lw_p1 : lw_okq (⟨"PlushFlocks$Reader", "letterAt", "(I)C"⟩, 9) := ⟨⟨by decide +kernel, by decide +kernel⟩, List.mem_of_getElem? (i := 240) (by decide +kernel), List.mem_of_getElem? (i := 289) (by decide +kernel), List.mem_of_getElem? (i := 290) (by decide +kernel)⟩
theorem lw_p2 : lw_okq (⟨"PlushFlocks$Reader", "isDigit", "(I)Z"⟩, 9) := ⟨⟨by decide +kernel, by decide +kernel⟩, List.mem_of_getElem? (i := 240) (by decide +kernel), List.mem_of_getElem? (i := 293) (by decide +kernel), List.mem_of_getElem? (i := 294) (by decide +kernel)⟩
theorem lw_p3 : lw_okq (⟨"PlushFlocks$Reader", "takes", "(I)Z"⟩, 9) := ⟨⟨by decide +kernel, by decide +kernel⟩, List.mem_of_getElem? (i := 240) (by decide +kernel), List.mem_of_getElem? (i := 297) (by decide +kernel), List.mem_of_getElem? (i := 298) (by decide +kernel)⟩
theorem lw_p4 : lw_okq (⟨"PlushFlocks$Reader", "numberAt", "(I)I"⟩, 9) := ⟨⟨by decide +kernel, by decide +kernel⟩, List.mem_of_getElem? (i := 240) (by decide +kernel), List.mem_of_getElem? (i := 301) (by decide +kernel), List.mem_of_getElem? (i := 302) (by decide +kernel)⟩
theorem lw_p5 : lw_okq (⟨"PlushFlocks$Reader", "takesNumber", "(I)Z"⟩, 9) := ⟨⟨by decide +kernel, by decide +kernel⟩, List.mem_of_getElem? (i := 240) (by decide +kernel), List.mem_of_getElem? (i := 305) (by decide +kernel), List.mem_of_getElem? (i := 306) (by decide +kernel)⟩
theorem lw_p6 : lw_okq (⟨"PlushFlocks$Reader", "mayBe", "(I)Z"⟩, 9) := ⟨⟨by decide +kernel, by decide +kernel⟩, List.mem_of_getElem? (i := 240) (by decide +kernel), List.mem_of_getElem? (i := 309) (by decide +kernel), List.mem_of_getElem? (i := 310) (by decide +kernel)⟩
theorem lw_p7 : lw_okq (⟨"PlushFlocks$Reader", "mayTellRoom", "(I)Z"⟩, 9) := ⟨⟨by decide +kernel, by decide +kernel⟩, List.mem_of_getElem? (i := 240) (by decide +kernel), List.mem_of_getElem? (i := 313) (by decide +kernel), List.mem_of_getElem? (i := 314) (by decide +kernel)⟩
theorem lw_p8 : lw_okq (⟨"PlushFlocks$Reader", "mayTellFlock", "(I)Z"⟩, 9) := ⟨⟨by decide +kernel, by decide +kernel⟩, List.mem_of_getElem? (i := 240) (by decide +kernel), List.mem_of_getElem? (i := 321) (by decide +kernel), List.mem_of_getElem? (i := 322) (by decide +kernel)⟩
theorem lw_p9 : lw_okq (⟨"PlushFlocks$Reader", "takesEnd", "()Z"⟩, 9) := ⟨⟨by decide +kernel, by decide +kernel⟩, List.mem_of_getElem? (i := 240) (by decide +kernel), List.mem_of_getElem? (i := 325) (by decide +kernel), List.mem_of_getElem? (i := 326) (by decide +kernel)⟩
theorem lw_p10 : lw_okq (⟨"PlushFlocks$Reader", "takesLetter", "(C)Z"⟩, 9) := ⟨⟨by decide +kernel, by decide +kernel⟩, List.mem_of_getElem? (i := 240) (by decide +kernel), List.mem_of_getElem? (i := 359) (by decide +kernel), List.mem_of_getElem? (i := 360) (by decide +kernel)⟩
theorem lw_p11 : lw_okq (⟨"PlushFlocks", "stepsTillBare", "(I)I"⟩, 11) := ⟨⟨by decide +kernel, by decide +kernel⟩, List.mem_of_getElem? (i := 13) (by decide +kernel), List.mem_of_getElem? (i := 388) (by decide +kernel), List.mem_of_getElem? (i := 389) (by decide +kernel)⟩
theorem lw_p12 : lw_okq (⟨"PlushFlocks$Evening", "act", "(LPlushFlocks$Plan;I)I"⟩, 6) := ⟨⟨by decide +kernel, by decide +kernel⟩, List.mem_of_getElem? (i := 83) (by decide +kernel), List.mem_of_getElem? (i := 400) (by decide +kernel), List.mem_of_getElem? (i := 401) (by decide +kernel)⟩
theorem lw_p13 : lw_okq (⟨"PlushFlocks$Evening", "graze", "(LPlushFlocks$Plan;II)I"⟩, 6) := ⟨⟨by decide +kernel, by decide +kernel⟩, List.mem_of_getElem? (i := 83) (by decide +kernel), List.mem_of_getElem? (i := 409) (by decide +kernel), List.mem_of_getElem? (i := 410) (by decide +kernel)⟩
theorem lw_p14 : lw_okq (⟨"PlushFlocks$Evening", "carpeted", "()I"⟩, 6) := ⟨⟨by decide +kernel, by decide +kernel⟩, List.mem_of_getElem? (i := 83) (by decide +kernel), List.mem_of_getElem? (i := 420) (by decide +kernel), List.mem_of_getElem? (i := 421) (by decide +kernel)⟩
theorem lw_p15 : lw_okq (⟨"PlushFlocks$WayBack", "reach", "(II)Z"⟩, 5) := ⟨⟨by decide +kernel, by decide +kernel⟩, List.mem_of_getElem? (i := 168) (by decide +kernel), List.mem_of_getElem? (i := 509) (by decide +kernel), List.mem_of_getElem? (i := 510) (by decide +kernel)⟩
def lw_privs_1 : List (MethodName × Nat) := [(⟨"PlushFlocks$Reader", "isTokenStart", "(I)Z"⟩, 9), (⟨"PlushFlocks$Reader", "letterAt", "(I)C"⟩, 9), (⟨"PlushFlocks$Reader", "isDigit", "(I)Z"⟩, 9), (⟨"PlushFlocks$Reader", "takes", "(I)Z"⟩, 9), (⟨"PlushFlocks$Reader", "numberAt", "(I)I"⟩, 9), (⟨"PlushFlocks$Reader", "takesNumber", "(I)Z"⟩, 9), (⟨"PlushFlocks$Reader", "mayBe", "(I)Z"⟩, 9), (⟨"PlushFlocks$Reader", "mayTellRoom", "(I)Z"⟩, 9), (⟨"PlushFlocks$Reader", "mayTellFlock", "(I)Z"⟩, 9), (⟨"PlushFlocks$Reader", "takesEnd", "()Z"⟩, 9), (⟨"PlushFlocks$Reader", "takesLetter", "(C)Z"⟩, 9), (⟨"PlushFlocks", "stepsTillBare", "(I)I"⟩, 11), (⟨"PlushFlocks$Evening", "act", "(LPlushFlocks$Plan;I)I"⟩, 6), (⟨"PlushFlocks$Evening", "graze", "(LPlushFlocks$Plan;II)I"⟩, 6), (⟨"PlushFlocks$Evening", "carpeted", "()I"⟩, 6), (⟨"PlushFlocks$WayBack", "reach", "(II)Z"⟩, 5)]
theorem lw_r1 : ∀ q ∈ lw_privs_1, lw_okq q := List.forall_mem_cons.mpr ⟨lw_p0, List.forall_mem_cons.mpr ⟨lw_p1, List.forall_mem_cons.mpr ⟨lw_p2, List.forall_mem_cons.mpr ⟨lw_p3, List.forall_mem_cons.mpr ⟨lw_p4, List.forall_mem_cons.mpr ⟨lw_p5, List.forall_mem_cons.mpr ⟨lw_p6, List.forall_mem_cons.mpr ⟨lw_p7, List.forall_mem_cons.mpr ⟨lw_p8, List.forall_mem_cons.mpr ⟨lw_p9, List.forall_mem_cons.mpr ⟨lw_p10, List.forall_mem_cons.mpr ⟨lw_p11, List.forall_mem_cons.mpr ⟨lw_p12, List.forall_mem_cons.mpr ⟨lw_p13, List.forall_mem_cons.mpr ⟨lw_p14, List.forall_mem_cons.mpr ⟨lw_p15, fun _ h => absurd h List.not_mem_nil⟩⟩⟩⟩⟩⟩⟩⟩⟩⟩⟩⟩⟩⟩⟩⟩
theorem lw_p16 : lw_okq (⟨"PlushFlocks$WayBack", "spread", "(LPlushFlocks$Plan;II)V"⟩, 5) := ⟨⟨by decide +kernel, by decide +kernel⟩, List.mem_of_getElem? (i := 168) (by decide +kernel), List.mem_of_getElem? (i := 513) (by decide +kernel), List.mem_of_getElem? (i := 514) (by decide +kernel)⟩
theorem lw_p17 : lw_okq (⟨"PlushFlocks$WayBack", "arrive", "(III)V"⟩, 5) := ⟨⟨by decide +kernel, by decide +kernel⟩, List.mem_of_getElem? (i := 168) (by decide +kernel), List.mem_of_getElem? (i := 522) (by decide +kernel), List.mem_of_getElem? (i := 523) (by decide +kernel)⟩
theorem lw_p18 : lw_okq (⟨"PlushFlocks", "sendsHome", "(I)Z"⟩, 11) := ⟨⟨by decide +kernel, by decide +kernel⟩, List.mem_of_getElem? (i := 13) (by decide +kernel), List.mem_of_getElem? (i := 530) (by decide +kernel), List.mem_of_getElem? (i := 531) (by decide +kernel)⟩
theorem lw_p19 : lw_okq (⟨"PlushFlocks$Grazing", "agrees", "(LPlushFlocks$Plan;I)Z"⟩, 7) := ⟨⟨by decide +kernel, by decide +kernel⟩, List.mem_of_getElem? (i := 136) (by decide +kernel), List.mem_of_getElem? (i := 582) (by decide +kernel), List.mem_of_getElem? (i := 583) (by decide +kernel)⟩
theorem lw_p20 : lw_okq (⟨"PlushFlocks$Grazing", "add", "(LPlushFlocks$Plan;I)V"⟩, 7) := ⟨⟨by decide +kernel, by decide +kernel⟩, List.mem_of_getElem? (i := 136) (by decide +kernel), List.mem_of_getElem? (i := 591) (by decide +kernel), List.mem_of_getElem? (i := 592) (by decide +kernel)⟩
theorem lw_p21 : lw_okq (⟨"PlushFlocks", "pile", "(I)I"⟩, 11) := ⟨⟨by decide +kernel, by decide +kernel⟩, List.mem_of_getElem? (i := 13) (by decide +kernel), List.mem_of_getElem? (i := 611) (by decide +kernel), List.mem_of_getElem? (i := 612) (by decide +kernel)⟩
theorem lw_p22 : lw_okq (⟨"PlushFlocks", "cord", "(I)I"⟩, 11) := ⟨⟨by decide +kernel, by decide +kernel⟩, List.mem_of_getElem? (i := 13) (by decide +kernel), List.mem_of_getElem? (i := 615) (by decide +kernel), List.mem_of_getElem? (i := 616) (by decide +kernel)⟩
theorem lw_p23 : lw_okq (⟨"PlushFlocks", "nap", "(I)I"⟩, 11) := ⟨⟨by decide +kernel, by decide +kernel⟩, List.mem_of_getElem? (i := 13) (by decide +kernel), List.mem_of_getElem? (i := 620) (by decide +kernel), List.mem_of_getElem? (i := 621) (by decide +kernel)⟩
theorem lw_p24 : lw_okq (⟨"PlushFlocks", "damask", "(I)I"⟩, 11) := ⟨⟨by decide +kernel, by decide +kernel⟩, List.mem_of_getElem? (i := 13) (by decide +kernel), List.mem_of_getElem? (i := 625) (by decide +kernel), List.mem_of_getElem? (i := 626) (by decide +kernel)⟩
theorem lw_p25 : lw_okq (⟨"PlushFlocks", "velvet", "(I)I"⟩, 11) := ⟨⟨by decide +kernel, by decide +kernel⟩, List.mem_of_getElem? (i := 13) (by decide +kernel), List.mem_of_getElem? (i := 630) (by decide +kernel), List.mem_of_getElem? (i := 631) (by decide +kernel)⟩
theorem lw_p26 : lw_okq (⟨"PlushFlocks", "fringe", "(I)I"⟩, 11) := ⟨⟨by decide +kernel, by decide +kernel⟩, List.mem_of_getElem? (i := 13) (by decide +kernel), List.mem_of_getElem? (i := 635) (by decide +kernel), List.mem_of_getElem? (i := 636) (by decide +kernel)⟩
theorem lw_p27 : lw_okq (⟨"PlushFlocksModel", "reads", "()Z"⟩, 19) := ⟨⟨by decide +kernel, by decide +kernel⟩, List.mem_of_getElem? (i := 657) (by decide +kernel), List.mem_of_getElem? (i := 663) (by decide +kernel), List.mem_of_getElem? (i := 664) (by decide +kernel)⟩
theorem lw_p28 : lw_okq (⟨"PlushFlocksModel", "token", "()V"⟩, 19) := ⟨⟨by decide +kernel, by decide +kernel⟩, List.mem_of_getElem? (i := 657) (by decide +kernel), List.mem_of_getElem? (i := 667) (by decide +kernel), List.mem_of_getElem? (i := 668) (by decide +kernel)⟩
theorem lw_p29 : lw_okq (⟨"PlushFlocksModel", "letterAt", "(I)I"⟩, 19) := ⟨⟨by decide +kernel, by decide +kernel⟩, List.mem_of_getElem? (i := 657) (by decide +kernel), List.mem_of_getElem? (i := 671) (by decide +kernel), List.mem_of_getElem? (i := 672) (by decide +kernel)⟩
theorem lw_p30 : lw_okq (⟨"PlushFlocksModel", "readsItem", "()Z"⟩, 19) := ⟨⟨by decide +kernel, by decide +kernel⟩, List.mem_of_getElem? (i := 657) (by decide +kernel), List.mem_of_getElem? (i := 684) (by decide +kernel), List.mem_of_getElem? (i := 685) (by decide +kernel)⟩
theorem lw_p31 : lw_okq (⟨"PlushFlocksModel", "number", "(III)Z"⟩, 19) := ⟨⟨by decide +kernel, by decide +kernel⟩, List.mem_of_getElem? (i := 657) (by decide +kernel), List.mem_of_getElem? (i := 688) (by decide +kernel), List.mem_of_getElem? (i := 689) (by decide +kernel)⟩
def lw_privs_2 : List (MethodName × Nat) := [(⟨"PlushFlocks$WayBack", "spread", "(LPlushFlocks$Plan;II)V"⟩, 5), (⟨"PlushFlocks$WayBack", "arrive", "(III)V"⟩, 5), (⟨"PlushFlocks", "sendsHome", "(I)Z"⟩, 11), (⟨"PlushFlocks$Grazing", "agrees", "(LPlushFlocks$Plan;I)Z"⟩, 7), (⟨"PlushFlocks$Grazing", "add", "(LPlushFlocks$Plan;I)V"⟩, 7), (⟨"PlushFlocks", "pile", "(I)I"⟩, 11), (⟨"PlushFlocks", "cord", "(I)I"⟩, 11), (⟨"PlushFlocks", "nap", "(I)I"⟩, 11), (⟨"PlushFlocks", "damask", "(I)I"⟩, 11), (⟨"PlushFlocks", "velvet", "(I)I"⟩, 11), (⟨"PlushFlocks", "fringe", "(I)I"⟩, 11), (⟨"PlushFlocksModel", "reads", "()Z"⟩, 19), (⟨"PlushFlocksModel", "token", "()V"⟩, 19), (⟨"PlushFlocksModel", "letterAt", "(I)I"⟩, 19), (⟨"PlushFlocksModel", "readsItem", "()Z"⟩, 19), (⟨"PlushFlocksModel", "number", "(III)Z"⟩, 19)]
theorem lw_r2 : ∀ q ∈ lw_privs_2, lw_okq q := List.forall_mem_cons.mpr ⟨lw_p16, List.forall_mem_cons.mpr ⟨lw_p17, List.forall_mem_cons.mpr ⟨lw_p18, List.forall_mem_cons.mpr ⟨lw_p19, List.forall_mem_cons.mpr ⟨lw_p20, List.forall_mem_cons.mpr ⟨lw_p21, List.forall_mem_cons.mpr ⟨lw_p22, List.forall_mem_cons.mpr ⟨lw_p23, List.forall_mem_cons.mpr ⟨lw_p24, List.forall_mem_cons.mpr ⟨lw_p25, List.forall_mem_cons.mpr ⟨lw_p26, List.forall_mem_cons.mpr ⟨lw_p27, List.forall_mem_cons.mpr ⟨lw_p28, List.forall_mem_cons.mpr ⟨lw_p29, List.forall_mem_cons.mpr ⟨lw_p30, List.forall_mem_cons.mpr ⟨lw_p31, fun _ h => absurd h List.not_mem_nil⟩⟩⟩⟩⟩⟩⟩⟩⟩⟩⟩⟩⟩⟩⟩⟩
theorem lw_p32 : lw_okq (⟨"PlushFlocksModel", "isNumber", "(II)Z"⟩, 19) := ⟨⟨by decide +kernel, by decide +kernel⟩, List.mem_of_getElem? (i := 657) (by decide +kernel), List.mem_of_getElem? (i := 692) (by decide +kernel), List.mem_of_getElem? (i := 693) (by decide +kernel)⟩
theorem lw_p33 : lw_okq (⟨"PlushFlocksModel", "readsDoor", "()Z"⟩, 19) := ⟨⟨by decide +kernel, by decide +kernel⟩, List.mem_of_getElem? (i := 657) (by decide +kernel), List.mem_of_getElem? (i := 696) (by decide +kernel), List.mem_of_getElem? (i := 697) (by decide +kernel)⟩
theorem lw_p34 : lw_okq (⟨"PlushFlocksModel", "begins", "()V"⟩, 19) := ⟨⟨by decide +kernel, by decide +kernel⟩, List.mem_of_getElem? (i := 657) (by decide +kernel), List.mem_of_getElem? (i := 700) (by decide +kernel), List.mem_of_getElem? (i := 701) (by decide +kernel)⟩
theorem lw_p35 : lw_okq (⟨"PlushFlocksModel", "isRoom", "(I)Z"⟩, 19) := ⟨⟨by decide +kernel, by decide +kernel⟩, List.mem_of_getElem? (i := 657) (by decide +kernel), List.mem_of_getElem? (i := 779) (by decide +kernel), List.mem_of_getElem? (i := 780) (by decide +kernel)⟩
theorem lw_p36 : lw_okq (⟨"PlushFlocksModel", "inRoom", "(I)I"⟩, 19) := ⟨⟨by decide +kernel, by decide +kernel⟩, List.mem_of_getElem? (i := 657) (by decide +kernel), List.mem_of_getElem? (i := 783) (by decide +kernel), List.mem_of_getElem? (i := 784) (by decide +kernel)⟩
theorem lw_p37 : lw_okq (⟨"PlushFlocksModel", "bare", "(I)I"⟩, 19) := ⟨⟨by decide +kernel, by decide +kernel⟩, List.mem_of_getElem? (i := 657) (by decide +kernel), List.mem_of_getElem? (i := 787) (by decide +kernel), List.mem_of_getElem? (i := 788) (by decide +kernel)⟩
theorem lw_p38 : lw_okq (⟨"PlushFlocksModel", "holds", "()V"⟩, 19) := ⟨⟨by decide +kernel, by decide +kernel⟩, List.mem_of_getElem? (i := 657) (by decide +kernel), List.mem_of_getElem? (i := 791) (by decide +kernel), List.mem_of_getElem? (i := 792) (by decide +kernel)⟩
theorem lw_p39 : lw_okq (⟨"PlushFlocksModel", "steps", "()I"⟩, 19) := ⟨⟨by decide +kernel, by decide +kernel⟩, List.mem_of_getElem? (i := 657) (by decide +kernel), List.mem_of_getElem? (i := 795) (by decide +kernel), List.mem_of_getElem? (i := 796) (by decide +kernel)⟩
theorem lw_p40 : lw_okq (⟨"PlushFlocksModel", "beyond", "(IZ)I"⟩, 19) := ⟨⟨by decide +kernel, by decide +kernel⟩, List.mem_of_getElem? (i := 657) (by decide +kernel), List.mem_of_getElem? (i := 802) (by decide +kernel), List.mem_of_getElem? (i := 803) (by decide +kernel)⟩
theorem lw_p41 : lw_okq (⟨"PlushFlocksModel", "lets", "()V"⟩, 19) := ⟨⟨by decide +kernel, by decide +kernel⟩, List.mem_of_getElem? (i := 657) (by decide +kernel), List.mem_of_getElem? (i := 809) (by decide +kernel), List.mem_of_getElem? (i := 810) (by decide +kernel)⟩
theorem lw_p42 : lw_okq (⟨"PlushFlocksModel", "isFlock", "(I)Z"⟩, 19) := ⟨⟨by decide +kernel, by decide +kernel⟩, List.mem_of_getElem? (i := 657) (by decide +kernel), List.mem_of_getElem? (i := 817) (by decide +kernel), List.mem_of_getElem? (i := 818) (by decide +kernel)⟩
theorem lw_p43 : lw_okq (⟨"PlushFlocksModel", "strays", "()I"⟩, 19) := ⟨⟨by decide +kernel, by decide +kernel⟩, List.mem_of_getElem? (i := 657) (by decide +kernel), List.mem_of_getElem? (i := 825) (by decide +kernel), List.mem_of_getElem? (i := 826) (by decide +kernel)⟩
theorem lw_p44 : lw_okq (⟨"PlushFlocksModel", "keeps", "()V"⟩, 19) := ⟨⟨by decide +kernel, by decide +kernel⟩, List.mem_of_getElem? (i := 657) (by decide +kernel), List.mem_of_getElem? (i := 833) (by decide +kernel), List.mem_of_getElem? (i := 834) (by decide +kernel)⟩
theorem lw_p45 : lw_okq (⟨"PlushFlocksModel", "mayDrive", "(II)Z"⟩, 19) := ⟨⟨by decide +kernel, by decide +kernel⟩, List.mem_of_getElem? (i := 657) (by decide +kernel), List.mem_of_getElem? (i := 841) (by decide +kernel), List.mem_of_getElem? (i := 842) (by decide +kernel)⟩
theorem lw_p46 : lw_okq (⟨"PlushFlocksModel", "codeNow", "()I"⟩, 19) := ⟨⟨by decide +kernel, by decide +kernel⟩, List.mem_of_getElem? (i := 657) (by decide +kernel), List.mem_of_getElem? (i := 865) (by decide +kernel), List.mem_of_getElem? (i := 866) (by decide +kernel)⟩
theorem lw_p47 : lw_okq (⟨"PlushFlocksModel", "places", "(I)V"⟩, 19) := ⟨⟨by decide +kernel, by decide +kernel⟩, List.mem_of_getElem? (i := 657) (by decide +kernel), List.mem_of_getElem? (i := 872) (by decide +kernel), List.mem_of_getElem? (i := 873) (by decide +kernel)⟩
def lw_privs_3 : List (MethodName × Nat) := [(⟨"PlushFlocksModel", "isNumber", "(II)Z"⟩, 19), (⟨"PlushFlocksModel", "readsDoor", "()Z"⟩, 19), (⟨"PlushFlocksModel", "begins", "()V"⟩, 19), (⟨"PlushFlocksModel", "isRoom", "(I)Z"⟩, 19), (⟨"PlushFlocksModel", "inRoom", "(I)I"⟩, 19), (⟨"PlushFlocksModel", "bare", "(I)I"⟩, 19), (⟨"PlushFlocksModel", "holds", "()V"⟩, 19), (⟨"PlushFlocksModel", "steps", "()I"⟩, 19), (⟨"PlushFlocksModel", "beyond", "(IZ)I"⟩, 19), (⟨"PlushFlocksModel", "lets", "()V"⟩, 19), (⟨"PlushFlocksModel", "isFlock", "(I)Z"⟩, 19), (⟨"PlushFlocksModel", "strays", "()I"⟩, 19), (⟨"PlushFlocksModel", "keeps", "()V"⟩, 19), (⟨"PlushFlocksModel", "mayDrive", "(II)Z"⟩, 19), (⟨"PlushFlocksModel", "codeNow", "()I"⟩, 19), (⟨"PlushFlocksModel", "places", "(I)V"⟩, 19)]
theorem lw_r3 : ∀ q ∈ lw_privs_3, lw_okq q := List.forall_mem_cons.mpr ⟨lw_p32, List.forall_mem_cons.mpr ⟨lw_p33, List.forall_mem_cons.mpr ⟨lw_p34, List.forall_mem_cons.mpr ⟨lw_p35, List.forall_mem_cons.mpr ⟨lw_p36, List.forall_mem_cons.mpr ⟨lw_p37, List.forall_mem_cons.mpr ⟨lw_p38, List.forall_mem_cons.mpr ⟨lw_p39, List.forall_mem_cons.mpr ⟨lw_p40, List.forall_mem_cons.mpr ⟨lw_p41, List.forall_mem_cons.mpr ⟨lw_p42, List.forall_mem_cons.mpr ⟨lw_p43, List.forall_mem_cons.mpr ⟨lw_p44, List.forall_mem_cons.mpr ⟨lw_p45, List.forall_mem_cons.mpr ⟨lw_p46, List.forall_mem_cons.mpr ⟨lw_p47, fun _ h => absurd h List.not_mem_nil⟩⟩⟩⟩⟩⟩⟩⟩⟩⟩⟩⟩⟩⟩⟩⟩
theorem lw_p48 : lw_okq (⟨"PlushFlocksModel", "firstDrive", "()I"⟩, 19) := ⟨⟨by decide +kernel, by decide +kernel⟩, List.mem_of_getElem? (i := 657) (by decide +kernel), List.mem_of_getElem? (i := 876) (by decide +kernel), List.mem_of_getElem? (i := 877) (by decide +kernel)⟩
theorem lw_p49 : lw_okq (⟨"PlushFlocksModel", "manyWith", "(I)I"⟩, 19) := ⟨⟨by decide +kernel, by decide +kernel⟩, List.mem_of_getElem? (i := 657) (by decide +kernel), List.mem_of_getElem? (i := 904) (by decide +kernel), List.mem_of_getElem? (i := 905) (by decide +kernel)⟩
theorem lw_p50 : lw_okq (⟨"PlushFlocksModel", "isSo", "(I)Z"⟩, 19) := ⟨⟨by decide +kernel, by decide +kernel⟩, List.mem_of_getElem? (i := 657) (by decide +kernel), List.mem_of_getElem? (i := 908) (by decide +kernel), List.mem_of_getElem? (i := 909) (by decide +kernel)⟩
def lw_privs_4 : List (MethodName × Nat) := [(⟨"PlushFlocksModel", "firstDrive", "()I"⟩, 19), (⟨"PlushFlocksModel", "manyWith", "(I)I"⟩, 19), (⟨"PlushFlocksModel", "isSo", "(I)Z"⟩, 19)]
theorem lw_r4 : ∀ q ∈ lw_privs_4, lw_okq q := List.forall_mem_cons.mpr ⟨lw_p48, List.forall_mem_cons.mpr ⟨lw_p49, List.forall_mem_cons.mpr ⟨lw_p50, fun _ h => absurd h List.not_mem_nil⟩⟩⟩
def lw_privs : List (MethodName × Nat) := lw_privs_1 ++ (lw_privs_2 ++ (lw_privs_3 ++ (lw_privs_4)))
def lw_tbl : List Cond := k2_sels lw_privs ++ tables_1
theorem lw_privs_ok : ∀ q ∈ lw_privs, lw_okq q := by
  show ∀ q ∈ lw_privs_1 ++ (lw_privs_2 ++ (lw_privs_3 ++ (lw_privs_4))), lw_okq q
  exact List.forall_mem_append.mpr ⟨lw_r1, List.forall_mem_append.mpr ⟨lw_r2, List.forall_mem_append.mpr ⟨lw_r3, lw_r4⟩⟩⟩
-- ===== end of PART A; then your names; then what follows =====
/-! ===== BEGIN words of one list among another's, by their places ===== -/
theorem goodIn_r {big : List Cond} (ws : List Cond) (ps : List Nat) (hp : ws = ps.filterMap (fun i => big[i]?)) (h : ws.all goodWord = true) : GoodIn big ws := by
  intro w hw
  have h1 := List.all_eq_true.mp h w hw
  rw [hp] at hw
  obtain ⟨i, -, hi⟩ := List.mem_filterMap.mp hw
  have hm : w ∈ big := by first | exact List.mem_of_getElem? hi | exact List.getElem?_mem hi
  exact ⟨hm, good_of_word h1⟩
theorem goodIn_app {big a b : List Cond} (ha : GoodIn big a) (hb : GoodIn big b) : GoodIn big (a ++ b) := fun w h => (List.mem_append.mp h).elim (ha w) (hb w)
theorem goodIn_ca {big a b : List Cond} {c : Cond} (ha : GoodIn big (c :: a)) (hb : GoodIn big b) : GoodIn big (c :: (a ++ b)) := fun w h => (List.mem_cons.mp h).elim (fun e => ha w (List.mem_cons.mpr (Or.inl e))) (fun h => (List.mem_append.mp h).elim (fun h => ha w (List.mem_cons.mpr (Or.inr h))) (hb w))
theorem goodIn_sub {big ws : List Cond} (hm : ∀ w ∈ ws, w ∈ big) (h : ws.all goodWord = true) : GoodIn big ws := fun w hw => ⟨hm w hw, good_of_word (List.all_eq_true.mp h w hw)⟩
/-! ===== END ===== -/

/-! ===== BEGIN printed: names, fields, word lists, decode rows ===== -/
def RX0 : String := "PlushFlocks$Evening"
def TX0 : u_T := fun k => match k with
  | 0 => ("PlushFlocks$Evening", "places", "I", false)
  | 1 => ("PlushFlocks$Evening", "carpets", "J", false)
  | 2 => ("PlushFlocks$Evening", "eaten", "J", false)
  | 3 => ("PlushFlocks$Evening", "lambs", "J", false)
  | 4 => ("PlushFlocks$Evening", "dogs", "I", false)
  | _ => ("PlushFlocks$Evening", "night", "I", false)
def tyX0 : Nat → FieldType := fun k => match k with
  | 0 => .int
  | 1 => .long
  | 2 => .long
  | 3 => .long
  | 4 => .int
  | _ => .int
abbrev wsX00 : List Cond := u_ws RX0 TX0 6
theorem nmX0 : ∀ a, a < 6 → ∀ b, b < 6 → a ≠ b → (TX0 a).2.1 ≠ (TX0 b).2.1 := by decide +kernel
theorem tyX0_ok : ∀ k, k < 6 → parseFieldDescriptor (TX0 k).2.2.1 = some (tyX0 k) := by decide +kernel
abbrev cX0_init : ByteArray := prog_2_method_1_code
def yX0_init : MethodName := ⟨RX0, "<init>", "()V"⟩
abbrev cX0_become : ByteArray := prog_2_method_2_code
def yX0_become : MethodName := ⟨RX0, "become", "(LPlushFlocks$Evening;)V"⟩
abbrev cX0_begin : ByteArray := prog_2_method_3_code
def yX0_begin : MethodName := ⟨RX0, "begin", "(LPlushFlocks$Plan;)V"⟩
abbrev cX0_pass : ByteArray := prog_2_method_4_code
def yX0_pass : MethodName := ⟨RX0, "pass", "(LPlushFlocks$Plan;)I"⟩
abbrev cX0_act : ByteArray := prog_2_method_5_code
def yX0_act : MethodName := ⟨RX0, "act", "(LPlushFlocks$Plan;I)I"⟩
abbrev cX0_graze : ByteArray := prog_2_method_6_code
def yX0_graze : MethodName := ⟨RX0, "graze", "(LPlushFlocks$Plan;II)I"⟩
abbrev cX0_carpeted : ByteArray := prog_2_method_7_code
def yX0_carpeted : MethodName := ⟨RX0, "carpeted", "()I"⟩
abbrev cX0_brighten : ByteArray := prog_2_method_8_code
def yX0_brighten : MethodName := ⟨RX0, "brighten", "(LPlushFlocks$Plan;)V"⟩
def RX1 : String := "PlushFlocks$Grazing"
def TX1 : u_T := fun k => match k with
  | 0 => ("PlushFlocks$Grazing", "sets", "J", false)
  | 1 => ("PlushFlocks$Grazing", "sums", "J", false)
  | 2 => ("PlushFlocks$Grazing", "waysWith", "J", false)
  | 3 => ("PlushFlocks$Grazing", "told", "I", false)
  | 4 => ("PlushFlocks$Grazing", "ways", "I", false)
  | 5 => ("PlushFlocks$Grazing", "inAll", "I", false)
  | _ => ("PlushFlocks$Grazing", "inSome", "I", false)
def tyX1 : Nat → FieldType := fun k => match k with
  | 0 => .long
  | 1 => .long
  | 2 => .long
  | 3 => .int
  | 4 => .int
  | 5 => .int
  | _ => .int
abbrev wsX10 : List Cond := u_ws RX1 TX1 7
theorem nmX1 : ∀ a, a < 7 → ∀ b, b < 7 → a ≠ b → (TX1 a).2.1 ≠ (TX1 b).2.1 := by decide +kernel
theorem tyX1_ok : ∀ k, k < 7 → parseFieldDescriptor (TX1 k).2.2.1 = some (tyX1 k) := by decide +kernel
abbrev cX1_init : ByteArray := prog_3_method_1_code
def yX1_init : MethodName := ⟨RX1, "<init>", "()V"⟩
abbrev cX1_hear : ByteArray := prog_3_method_2_code
def yX1_hear : MethodName := ⟨RX1, "hear", "(II)Z"⟩
abbrev cX1_lose : ByteArray := prog_3_method_3_code
def yX1_lose : MethodName := ⟨RX1, "lose", "()V"⟩
abbrev cX1_weigh : ByteArray := prog_3_method_4_code
def yX1_weigh : MethodName := ⟨RX1, "weigh", "(LPlushFlocks$Plan;)V"⟩
abbrev cX1_agrees : ByteArray := prog_3_method_5_code
def yX1_agrees : MethodName := ⟨RX1, "agrees", "(LPlushFlocks$Plan;I)Z"⟩
abbrev cX1_eatenBy : ByteArray := prog_3_method_6_code
def yX1_eatenBy : MethodName := ⟨RX1, "eatenBy", "(LPlushFlocks$Plan;I)I"⟩
abbrev cX1_add : ByteArray := prog_3_method_7_code
def yX1_add : MethodName := ⟨RX1, "add", "(LPlushFlocks$Plan;I)V"⟩
abbrev cX1_bestAsked : ByteArray := prog_3_method_8_code
def yX1_bestAsked : MethodName := ⟨RX1, "bestAsked", "(I)I"⟩
def RX2 : String := "PlushFlocks$Past"
def TX2 : u_T := fun k => match k with
  | 0 => ("PlushFlocks$Past", "ring", "[LPlushFlocks$Evening;", true)
  | 1 => ("PlushFlocks$Past", "next", "I", false)
  | _ => ("PlushFlocks$Past", "known", "I", false)
def tyX2 : Nat → FieldType := fun k => match k with
  | 0 => .array (.object "PlushFlocks$Evening")
  | 1 => .int
  | _ => .int
abbrev wsX20 : List Cond := u_ws RX2 TX2 3
theorem nmX2 : ∀ a, a < 3 → ∀ b, b < 3 → a ≠ b → (TX2 a).2.1 ≠ (TX2 b).2.1 := by decide +kernel
theorem tyX2_ok : ∀ k, k < 3 → parseFieldDescriptor (TX2 k).2.2.1 = some (tyX2 k) := by decide +kernel
abbrev cX2_init : ByteArray := prog_4_method_1_code
def yX2_init : MethodName := ⟨RX2, "<init>", "()V"⟩
abbrev cX2_remember : ByteArray := prog_4_method_2_code
def yX2_remember : MethodName := ⟨RX2, "remember", "(LPlushFlocks$Evening;)V"⟩
abbrev cX2_giveBack : ByteArray := prog_4_method_3_code
def yX2_giveBack : MethodName := ⟨RX2, "giveBack", "(LPlushFlocks$Evening;)Z"⟩
abbrev cX2_lose : ByteArray := prog_4_method_4_code
def yX2_lose : MethodName := ⟨RX2, "lose", "()V"⟩
def RX3 : String := "PlushFlocks$Plan"
def TX3 : u_T := fun k => match k with
  | 0 => ("PlushFlocks$Plan", "rooms", "I", false)
  | 1 => ("PlushFlocks$Plan", "flocks", "I", false)
  | 2 => ("PlushFlocks$Plan", "lambAt", "I", false)
  | 3 => ("PlushFlocks$Plan", "lambAtTold", "Z", false)
  | 4 => ("PlushFlocks$Plan", "holds", "J", false)
  | 5 => ("PlushFlocks$Plan", "carpets", "J", false)
  | 6 => ("PlushFlocks$Plan", "doors", "J", false)
  | 7 => ("PlushFlocks$Plan", "homes", "I", false)
  | 8 => ("PlushFlocks$Plan", "hungers", "J", false)
  | _ => ("PlushFlocks$Plan", "stuffs", "J", false)
def tyX3 : Nat → FieldType := fun k => match k with
  | 0 => .int
  | 1 => .int
  | 2 => .int
  | 3 => .boolean
  | 4 => .long
  | 5 => .long
  | 6 => .long
  | 7 => .int
  | 8 => .long
  | _ => .long
abbrev wsX30 : List Cond := u_ws RX3 TX3 10
theorem nmX3 : ∀ a, a < 10 → ∀ b, b < 10 → a ≠ b → (TX3 a).2.1 ≠ (TX3 b).2.1 := by decide +kernel
theorem tyX3_ok : ∀ k, k < 10 → parseFieldDescriptor (TX3 k).2.2.1 = some (tyX3 k) := by decide +kernel
abbrev cX3_init : ByteArray := prog_5_method_1_code
def yX3_init : MethodName := ⟨RX3, "<init>", "()V"⟩
abbrev cX3_hasRoom : ByteArray := prog_5_method_2_code
def yX3_hasRoom : MethodName := ⟨RX3, "hasRoom", "(I)Z"⟩
abbrev cX3_hasFlock : ByteArray := prog_5_method_3_code
def yX3_hasFlock : MethodName := ⟨RX3, "hasFlock", "(I)Z"⟩
abbrev cX3_addRoom : ByteArray := prog_5_method_4_code
def yX3_addRoom : MethodName := ⟨RX3, "addRoom", "(II)V"⟩
abbrev cX3_addDoor : ByteArray := prog_5_method_5_code
def yX3_addDoor : MethodName := ⟨RX3, "addDoor", "(II)V"⟩
abbrev cX3_addFlock : ByteArray := prog_5_method_6_code
def yX3_addFlock : MethodName := ⟨RX3, "addFlock", "(III)V"⟩
abbrev cX3_tellLambAt : ByteArray := prog_5_method_7_code
def yX3_tellLambAt : MethodName := ⟨RX3, "tellLambAt", "(I)V"⟩
abbrev cX3_flocksIn : ByteArray := prog_5_method_8_code
def yX3_flocksIn : MethodName := ⟨RX3, "flocksIn", "(II)I"⟩
abbrev cX3_strays : ByteArray := prog_5_method_9_code
def yX3_strays : MethodName := ⟨RX3, "strays", "(I)I"⟩
abbrev cX3_openRooms : ByteArray := prog_5_method_10_code
def yX3_openRooms : MethodName := ⟨RX3, "openRooms", "(II)I"⟩
abbrev cX3_roomsTaken : ByteArray := prog_5_method_11_code
def yX3_roomsTaken : MethodName := ⟨RX3, "roomsTaken", "(II)I"⟩
abbrev cX3_mayJoin : ByteArray := prog_5_method_12_code
def yX3_mayJoin : MethodName := ⟨RX3, "mayJoin", "(III)Z"⟩
def RX4 : String := "PlushFlocks$Reader"
def TX4 : u_T := fun k => match k with
  | 0 => ("PlushFlocks$Reader", "text", "[C", true)
  | 1 => ("PlushFlocks$Reader", "length", "I", true)
  | 2 => ("PlushFlocks$Reader", "item", "C", false)
  | 3 => ("PlushFlocks$Reader", "numbers", "I", false)
  | 4 => ("PlushFlocks$Reader", "one", "I", false)
  | 5 => ("PlushFlocks$Reader", "two", "I", false)
  | 6 => ("PlushFlocks$Reader", "three", "I", false)
  | 7 => ("PlushFlocks$Reader", "items", "I", false)
  | _ => ("PlushFlocks$Reader", "plan", "LPlushFlocks$Plan;", true)
def tyX4 : Nat → FieldType := fun k => match k with
  | 0 => .array .char
  | 1 => .int
  | 2 => .char
  | 3 => .int
  | 4 => .int
  | 5 => .int
  | 6 => .int
  | 7 => .int
  | _ => .object "PlushFlocks$Plan"
abbrev wsX40 : List Cond := u_ws RX4 TX4 9
theorem nmX4 : ∀ a, a < 9 → ∀ b, b < 9 → a ≠ b → (TX4 a).2.1 ≠ (TX4 b).2.1 := by decide +kernel
theorem tyX4_ok : ∀ k, k < 9 → parseFieldDescriptor (TX4 k).2.2.1 = some (tyX4 k) := by decide +kernel
abbrev cX4_init : ByteArray := prog_6_method_1_code
def yX4_init : MethodName := ⟨RX4, "<init>", "([CI)V"⟩
abbrev cX4_readAll : ByteArray := prog_6_method_2_code
def yX4_readAll : MethodName := ⟨RX4, "readAll", "()I"⟩
abbrev cX4_letterAt : ByteArray := prog_6_method_3_code
def yX4_letterAt : MethodName := ⟨RX4, "letterAt", "(I)C"⟩
abbrev cX4_isDigit : ByteArray := prog_6_method_4_code
def yX4_isDigit : MethodName := ⟨RX4, "isDigit", "(I)Z"⟩
abbrev cX4_isTokenStart : ByteArray := prog_6_method_5_code
def yX4_isTokenStart : MethodName := ⟨RX4, "isTokenStart", "(I)Z"⟩
abbrev cX4_takes : ByteArray := prog_6_method_6_code
def yX4_takes : MethodName := ⟨RX4, "takes", "(I)Z"⟩
abbrev cX4_numberAt : ByteArray := prog_6_method_7_code
def yX4_numberAt : MethodName := ⟨RX4, "numberAt", "(I)I"⟩
abbrev cX4_takesLetter : ByteArray := prog_6_method_8_code
def yX4_takesLetter : MethodName := ⟨RX4, "takesLetter", "(C)Z"⟩
abbrev cX4_takesNumber : ByteArray := prog_6_method_9_code
def yX4_takesNumber : MethodName := ⟨RX4, "takesNumber", "(I)Z"⟩
abbrev cX4_mayBe : ByteArray := prog_6_method_10_code
def yX4_mayBe : MethodName := ⟨RX4, "mayBe", "(I)Z"⟩
abbrev cX4_mayTellRoom : ByteArray := prog_6_method_11_code
def yX4_mayTellRoom : MethodName := ⟨RX4, "mayTellRoom", "(I)Z"⟩
abbrev cX4_mayTellFlock : ByteArray := prog_6_method_12_code
def yX4_mayTellFlock : MethodName := ⟨RX4, "mayTellFlock", "(I)Z"⟩
abbrev cX4_takesEnd : ByteArray := prog_6_method_13_code
def yX4_takesEnd : MethodName := ⟨RX4, "takesEnd", "()Z"⟩
abbrev cX4_numbersOf : ByteArray := prog_6_method_14_code
def yX4_numbersOf : MethodName := ⟨RX4, "numbersOf", "(C)I"⟩
def RX5 : String := "PlushFlocks$WayBack"
def TX5 : u_T := fun k => match k with
  | 0 => ("PlushFlocks$WayBack", "queue", "[I", true)
  | 1 => ("PlushFlocks$WayBack", "seen", "[J", true)
  | 2 => ("PlushFlocks$WayBack", "end", "I", false)
  | 3 => ("PlushFlocks$WayBack", "fewest", "I", false)
  | _ => ("PlushFlocks$WayBack", "first", "I", false)
def tyX5 : Nat → FieldType := fun k => match k with
  | 0 => .array .int
  | 1 => .array .long
  | 2 => .int
  | 3 => .int
  | _ => .int
abbrev wsX50 : List Cond := u_ws RX5 TX5 5
theorem nmX5 : ∀ a, a < 5 → ∀ b, b < 5 → a ≠ b → (TX5 a).2.1 ≠ (TX5 b).2.1 := by decide +kernel
theorem tyX5_ok : ∀ k, k < 5 → parseFieldDescriptor (TX5 k).2.2.1 = some (tyX5 k) := by decide +kernel
abbrev cX5_init : ByteArray := prog_7_method_1_code
def yX5_init : MethodName := ⟨RX5, "<init>", "()V"⟩
abbrev cX5_search : ByteArray := prog_7_method_2_code
def yX5_search : MethodName := ⟨RX5, "search", "(LPlushFlocks$Plan;LPlushFlocks$Evening;)V"⟩
abbrev cX5_spread : ByteArray := prog_7_method_3_code
def yX5_spread : MethodName := ⟨RX5, "spread", "(LPlushFlocks$Plan;II)V"⟩
abbrev cX5_arrive : ByteArray := prog_7_method_4_code
def yX5_arrive : MethodName := ⟨RX5, "arrive", "(III)V"⟩
abbrev cX5_reach : ByteArray := prog_7_method_5_code
def yX5_reach : MethodName := ⟨RX5, "reach", "(II)Z"⟩
def RX6 : String := "PlushFlocks"
def TX6 : u_T := fun k => match k with
  | 0 => ("PlushFlocks", "text", "[C", true)
  | 1 => ("PlushFlocks", "letters", "I", false)
  | 2 => ("PlushFlocks", "plan", "LPlushFlocks$Plan;", false)
  | 3 => ("PlushFlocks", "evening", "LPlushFlocks$Evening;", true)
  | 4 => ("PlushFlocks", "trial", "LPlushFlocks$Evening;", true)
  | 5 => ("PlushFlocks", "past", "LPlushFlocks$Past;", true)
  | 6 => ("PlushFlocks", "images", "[LPlushFlocks$Evening;", true)
  | 7 => ("PlushFlocks", "imagesKept", "I", false)
  | 8 => ("PlushFlocks", "grazing", "LPlushFlocks$Grazing;", true)
  | 9 => ("PlushFlocks", "wayBack", "LPlushFlocks$WayBack;", true)
  | _ => ("PlushFlocks", "traced", "J", false)
def tyX6 : Nat → FieldType := fun k => match k with
  | 0 => .array .char
  | 1 => .int
  | 2 => .object "PlushFlocks$Plan"
  | 3 => .object "PlushFlocks$Evening"
  | 4 => .object "PlushFlocks$Evening"
  | 5 => .object "PlushFlocks$Past"
  | 6 => .array (.object "PlushFlocks$Evening")
  | 7 => .int
  | 8 => .object "PlushFlocks$Grazing"
  | 9 => .object "PlushFlocks$WayBack"
  | _ => .long
abbrev wsX60 : List Cond := u_ws RX6 TX6 11
theorem nmX6 : ∀ a, a < 11 → ∀ b, b < 11 → a ≠ b → (TX6 a).2.1 ≠ (TX6 b).2.1 := by decide +kernel
theorem tyX6_ok : ∀ k, k < 11 → parseFieldDescriptor (TX6 k).2.2.1 = some (tyX6 k) := by decide +kernel
abbrev cX6_init : ByteArray := prog_1_method_1_code
def yX6_init : MethodName := ⟨RX6, "<init>", "()V"⟩
abbrev cX6_type : ByteArray := prog_1_method_2_code
def yX6_type : MethodName := ⟨RX6, "type", "(I)I"⟩
abbrev cX6_clear : ByteArray := prog_1_method_3_code
def yX6_clear : MethodName := ⟨RX6, "clear", "()I"⟩
abbrev cX6_house : ByteArray := prog_1_method_4_code
def yX6_house : MethodName := ⟨RX6, "house", "()I"⟩
abbrev cX6_room : ByteArray := prog_1_method_5_code
def yX6_room : MethodName := ⟨RX6, "room", "(II)I"⟩
abbrev cX6_flock : ByteArray := prog_1_method_6_code
def yX6_flock : MethodName := ⟨RX6, "flock", "(II)I"⟩
abbrev cX6_now : ByteArray := prog_1_method_7_code
def yX6_now : MethodName := ⟨RX6, "now", "(I)I"⟩
abbrev cX6_stepsTillBare : ByteArray := prog_1_method_8_code
def yX6_stepsTillBare : MethodName := ⟨RX6, "stepsTillBare", "(I)I"⟩
abbrev cX6_step : ByteArray := prog_1_method_9_code
def yX6_step : MethodName := ⟨RX6, "step", "()I"⟩
abbrev cX6_drives : ByteArray := prog_1_method_10_code
def yX6_drives : MethodName := ⟨RX6, "drives", "(II)I"⟩
abbrev cX6_puts : ByteArray := prog_1_method_11_code
def yX6_puts : MethodName := ⟨RX6, "puts", "(I)I"⟩
abbrev cX6_calls : ByteArray := prog_1_method_12_code
def yX6_calls : MethodName := ⟨RX6, "calls", "(I)I"⟩
abbrev cX6_dawn : ByteArray := prog_1_method_13_code
def yX6_dawn : MethodName := ⟨RX6, "dawn", "()I"⟩
abbrev cX6_undo : ByteArray := prog_1_method_14_code
def yX6_undo : MethodName := ⟨RX6, "undo", "()I"⟩
abbrev cX6_back : ByteArray := prog_1_method_15_code
def yX6_back : MethodName := ⟨RX6, "back", "(I)I"⟩
abbrev cX6_homing : ByteArray := prog_1_method_16_code
def yX6_homing : MethodName := ⟨RX6, "homing", "()I"⟩
abbrev cX6_apart : ByteArray := prog_1_method_17_code
def yX6_apart : MethodName := ⟨RX6, "apart", "(I)I"⟩
abbrev cX6_odds : ByteArray := prog_1_method_18_code
def yX6_odds : MethodName := ⟨RX6, "odds", "(III)I"⟩
abbrev cX6_sendsHome : ByteArray := prog_1_method_19_code
def yX6_sendsHome : MethodName := ⟨RX6, "sendsHome", "(I)Z"⟩
abbrev cX6_cheapest : ByteArray := prog_1_method_20_code
def yX6_cheapest : MethodName := ⟨RX6, "cheapest", "(LPlushFlocks$Plan;III)I"⟩
abbrev cX6_tells : ByteArray := prog_1_method_21_code
def yX6_tells : MethodName := ⟨RX6, "tells", "(II)I"⟩
abbrev cX6_forget : ByteArray := prog_1_method_22_code
def yX6_forget : MethodName := ⟨RX6, "forget", "()I"⟩
abbrev cX6_can : ByteArray := prog_1_method_23_code
def yX6_can : MethodName := ⟨RX6, "can", "(I)I"⟩
abbrev cX6_ask : ByteArray := prog_1_method_24_code
def yX6_ask : MethodName := ⟨RX6, "ask", "()I"⟩
abbrev cX6_rate : ByteArray := prog_1_method_25_code
def yX6_rate : MethodName := ⟨RX6, "rate", "(II)I"⟩
abbrev cX6_keep : ByteArray := prog_1_method_26_code
def yX6_keep : MethodName := ⟨RX6, "keep", "(I)I"⟩
abbrev cX6_again : ByteArray := prog_1_method_27_code
def yX6_again : MethodName := ⟨RX6, "again", "(I)I"⟩
abbrev cX6_count : ByteArray := prog_1_method_28_code
def yX6_count : MethodName := ⟨RX6, "count", "(I)I"⟩
abbrev cX6_trace : ByteArray := prog_1_method_29_code
def yX6_trace : MethodName := ⟨RX6, "trace", "()J"⟩
abbrev cX6_pile : ByteArray := prog_1_method_30_code
def yX6_pile : MethodName := ⟨RX6, "pile", "(I)I"⟩
abbrev cX6_cord : ByteArray := prog_1_method_31_code
def yX6_cord : MethodName := ⟨RX6, "cord", "(I)I"⟩
abbrev cX6_nap : ByteArray := prog_1_method_32_code
def yX6_nap : MethodName := ⟨RX6, "nap", "(I)I"⟩
abbrev cX6_damask : ByteArray := prog_1_method_33_code
def yX6_damask : MethodName := ⟨RX6, "damask", "(I)I"⟩
abbrev cX6_velvet : ByteArray := prog_1_method_34_code
def yX6_velvet : MethodName := ⟨RX6, "velvet", "(I)I"⟩
abbrev cX6_fringe : ByteArray := prog_1_method_35_code
def yX6_fringe : MethodName := ⟨RX6, "fringe", "(I)I"⟩
abbrev cX6_lane : ByteArray := prog_1_method_36_code
def yX6_lane : MethodName := ⟨RX6, "lane", "(JI)I"⟩
abbrev cX6_withLane : ByteArray := prog_1_method_37_code
def yX6_withLane : MethodName := ⟨RX6, "withLane", "(JII)J"⟩
abbrev cX6_sum : ByteArray := prog_1_method_38_code
def yX6_sum : MethodName := ⟨RX6, "sum", "(J)I"⟩
abbrev cX6_spot : ByteArray := prog_1_method_39_code
def yX6_spot : MethodName := ⟨RX6, "spot", "(II)I"⟩
abbrev cX6_withSpot : ByteArray := prog_1_method_40_code
def yX6_withSpot : MethodName := ⟨RX6, "withSpot", "(III)I"⟩
abbrev cX6_has : ByteArray := prog_1_method_41_code
def yX6_has : MethodName := ⟨RX6, "has", "(II)Z"⟩
abbrev cX6_lowest : ByteArray := prog_1_method_42_code
def yX6_lowest : MethodName := ⟨RX6, "lowest", "(I)I"⟩
abbrev cX6_slot : ByteArray := prog_1_method_43_code
def yX6_slot : MethodName := ⟨RX6, "slot", "([LPlushFlocks$Evening;I)LPlushFlocks$Evening;"⟩
abbrev cX6_power : ByteArray := prog_1_method_44_code
def yX6_power : MethodName := ⟨RX6, "power", "(II)I"⟩
abbrev cX6_commonDivisor : ByteArray := prog_1_method_45_code
def yX6_commonDivisor : MethodName := ⟨RX6, "commonDivisor", "(II)I"⟩
def RX7 : String := "PlushFlocksModel"
def TX7 : u_T := fun k => match k with
  | 0 => ("PlushFlocksModel", "trace", "J", false)
  | 1 => ("PlushFlocksModel", "text", "[I", true)
  | 2 => ("PlushFlocksModel", "typed", "I", false)
  | 3 => ("PlushFlocksModel", "told", "[I", true)
  | 4 => ("PlushFlocksModel", "draft", "[I", true)
  | 5 => ("PlushFlocksModel", "s", "[I", true)
  | 6 => ("PlushFlocksModel", "past", "[I", true)
  | 7 => ("PlushFlocksModel", "known", "I", false)
  | 8 => ("PlushFlocksModel", "images", "[I", true)
  | 9 => ("PlushFlocksModel", "kept", "[Z", true)
  | 10 => ("PlushFlocksModel", "notes", "[I", true)
  | 11 => ("PlushFlocksModel", "noted", "I", false)
  | 12 => ("PlushFlocksModel", "at", "I", false)
  | 13 => ("PlushFlocksModel", "sort", "I", false)
  | 14 => ("PlushFlocksModel", "start", "I", false)
  | 15 => ("PlushFlocksModel", "value", "I", false)
  | 16 => ("PlushFlocksModel", "aside", "[I", true)
  | 17 => ("PlushFlocksModel", "near", "[J", true)
  | _ => ("PlushFlocksModel", "nearer", "[J", true)
def tyX7 : Nat → FieldType := fun k => match k with
  | 0 => .long
  | 1 => .array .int
  | 2 => .int
  | 3 => .array .int
  | 4 => .array .int
  | 5 => .array .int
  | 6 => .array .int
  | 7 => .int
  | 8 => .array .int
  | 9 => .array .boolean
  | 10 => .array .int
  | 11 => .int
  | 12 => .int
  | 13 => .int
  | 14 => .int
  | 15 => .int
  | 16 => .array .int
  | 17 => .array .long
  | _ => .array .long
abbrev wsX70 : List Cond := u_ws RX7 TX7 19
theorem nmX7 : ∀ a, a < 19 → ∀ b, b < 19 → a ≠ b → (TX7 a).2.1 ≠ (TX7 b).2.1 := by decide +kernel
theorem tyX7_ok : ∀ k, k < 19 → parseFieldDescriptor (TX7 k).2.2.1 = some (tyX7 k) := by decide +kernel
abbrev cX7_init : ByteArray := prog_9_method_1_code
def yX7_init : MethodName := ⟨RX7, "<init>", "()V"⟩
abbrev cX7_in : ByteArray := prog_9_method_3_code
def yX7_in : MethodName := ⟨RX7, "in", "(III)Z"⟩
abbrev cX7_has : ByteArray := prog_9_method_4_code
def yX7_has : MethodName := ⟨RX7, "has", "(II)Z"⟩
abbrev cX7_ones : ByteArray := prog_9_method_5_code
def yX7_ones : MethodName := ⟨RX7, "ones", "(I)I"⟩
abbrev cX7_isRoom : ByteArray := prog_9_method_6_code
def yX7_isRoom : MethodName := ⟨RX7, "isRoom", "(I)Z"⟩
abbrev cX7_isFlock : ByteArray := prog_9_method_7_code
def yX7_isFlock : MethodName := ⟨RX7, "isFlock", "(I)Z"⟩
abbrev cX7_type : ByteArray := prog_9_method_8_code
def yX7_type : MethodName := ⟨RX7, "type", "(I)I"⟩
abbrev cX7_clear : ByteArray := prog_9_method_9_code
def yX7_clear : MethodName := ⟨RX7, "clear", "()I"⟩
abbrev cX7_letterAt : ByteArray := prog_9_method_10_code
def yX7_letterAt : MethodName := ⟨RX7, "letterAt", "(I)I"⟩
abbrev cX7_isDigit : ByteArray := prog_9_method_11_code
def yX7_isDigit : MethodName := ⟨RX7, "isDigit", "(I)Z"⟩
abbrev cX7_isWord : ByteArray := prog_9_method_12_code
def yX7_isWord : MethodName := ⟨RX7, "isWord", "(I)Z"⟩
abbrev cX7_token : ByteArray := prog_9_method_13_code
def yX7_token : MethodName := ⟨RX7, "token", "()V"⟩
abbrev cX7_isNumber : ByteArray := prog_9_method_14_code
def yX7_isNumber : MethodName := ⟨RX7, "isNumber", "(II)Z"⟩
abbrev cX7_number : ByteArray := prog_9_method_15_code
def yX7_number : MethodName := ⟨RX7, "number", "(III)Z"⟩
abbrev cX7_readsDoor : ByteArray := prog_9_method_16_code
def yX7_readsDoor : MethodName := ⟨RX7, "readsDoor", "()Z"⟩
abbrev cX7_readsItem : ByteArray := prog_9_method_17_code
def yX7_readsItem : MethodName := ⟨RX7, "readsItem", "()Z"⟩
abbrev cX7_reads : ByteArray := prog_9_method_18_code
def yX7_reads : MethodName := ⟨RX7, "reads", "()Z"⟩
abbrev cX7_begins : ByteArray := prog_9_method_19_code
def yX7_begins : MethodName := ⟨RX7, "begins", "()V"⟩
abbrev cX7_house : ByteArray := prog_9_method_20_code
def yX7_house : MethodName := ⟨RX7, "house", "()I"⟩
abbrev cX7_inRoom : ByteArray := prog_9_method_21_code
def yX7_inRoom : MethodName := ⟨RX7, "inRoom", "(I)I"⟩
abbrev cX7_beyond : ByteArray := prog_9_method_22_code
def yX7_beyond : MethodName := ⟨RX7, "beyond", "(IZ)I"⟩
abbrev cX7_steps : ByteArray := prog_9_method_23_code
def yX7_steps : MethodName := ⟨RX7, "steps", "()I"⟩
abbrev cX7_holds : ByteArray := prog_9_method_24_code
def yX7_holds : MethodName := ⟨RX7, "holds", "()V"⟩
abbrev cX7_lets : ByteArray := prog_9_method_25_code
def yX7_lets : MethodName := ⟨RX7, "lets", "()V"⟩
abbrev cX7_bare : ByteArray := prog_9_method_26_code
def yX7_bare : MethodName := ⟨RX7, "bare", "(I)I"⟩
abbrev cX7_room : ByteArray := prog_9_method_27_code
def yX7_room : MethodName := ⟨RX7, "room", "(II)I"⟩
abbrev cX7_flock : ByteArray := prog_9_method_28_code
def yX7_flock : MethodName := ⟨RX7, "flock", "(II)I"⟩
abbrev cX7_strays : ByteArray := prog_9_method_29_code
def yX7_strays : MethodName := ⟨RX7, "strays", "()I"⟩
abbrev cX7_now : ByteArray := prog_9_method_30_code
def yX7_now : MethodName := ⟨RX7, "now", "(I)I"⟩
abbrev cX7_keeps : ByteArray := prog_9_method_31_code
def yX7_keeps : MethodName := ⟨RX7, "keeps", "()V"⟩
abbrev cX7_step : ByteArray := prog_9_method_32_code
def yX7_step : MethodName := ⟨RX7, "step", "()I"⟩
abbrev cX7_mayDrive : ByteArray := prog_9_method_33_code
def yX7_mayDrive : MethodName := ⟨RX7, "mayDrive", "(II)Z"⟩
abbrev cX7_drives : ByteArray := prog_9_method_34_code
def yX7_drives : MethodName := ⟨RX7, "drives", "(II)I"⟩
abbrev cX7_puts : ByteArray := prog_9_method_35_code
def yX7_puts : MethodName := ⟨RX7, "puts", "(I)I"⟩
abbrev cX7_calls : ByteArray := prog_9_method_36_code
def yX7_calls : MethodName := ⟨RX7, "calls", "(I)I"⟩
abbrev cX7_dawn : ByteArray := prog_9_method_37_code
def yX7_dawn : MethodName := ⟨RX7, "dawn", "()I"⟩
abbrev cX7_undo : ByteArray := prog_9_method_38_code
def yX7_undo : MethodName := ⟨RX7, "undo", "()I"⟩
abbrev cX7_codeNow : ByteArray := prog_9_method_39_code
def yX7_codeNow : MethodName := ⟨RX7, "codeNow", "()I"⟩
abbrev cX7_places : ByteArray := prog_9_method_40_code
def yX7_places : MethodName := ⟨RX7, "places", "(I)V"⟩
abbrev cX7_isIn : ByteArray := prog_9_method_41_code
def yX7_isIn : MethodName := ⟨RX7, "isIn", "([JI)Z"⟩
abbrev cX7_firstDrive : ByteArray := prog_9_method_42_code
def yX7_firstDrive : MethodName := ⟨RX7, "firstDrive", "()I"⟩
abbrev cX7_back : ByteArray := prog_9_method_43_code
def yX7_back : MethodName := ⟨RX7, "back", "(I)I"⟩
abbrev cX7_homing : ByteArray := prog_9_method_44_code
def yX7_homing : MethodName := ⟨RX7, "homing", "()I"⟩
abbrev cX7_apart : ByteArray := prog_9_method_45_code
def yX7_apart : MethodName := ⟨RX7, "apart", "(I)I"⟩
abbrev cX7_odds : ByteArray := prog_9_method_46_code
def yX7_odds : MethodName := ⟨RX7, "odds", "(III)I"⟩
abbrev cX7_tells : ByteArray := prog_9_method_47_code
def yX7_tells : MethodName := ⟨RX7, "tells", "(II)I"⟩
abbrev cX7_forget : ByteArray := prog_9_method_48_code
def yX7_forget : MethodName := ⟨RX7, "forget", "()I"⟩
abbrev cX7_isSo : ByteArray := prog_9_method_49_code
def yX7_isSo : MethodName := ⟨RX7, "isSo", "(I)Z"⟩
abbrev cX7_manyWith : ByteArray := prog_9_method_50_code
def yX7_manyWith : MethodName := ⟨RX7, "manyWith", "(I)I"⟩
abbrev cX7_can : ByteArray := prog_9_method_51_code
def yX7_can : MethodName := ⟨RX7, "can", "(I)I"⟩
abbrev cX7_ask : ByteArray := prog_9_method_52_code
def yX7_ask : MethodName := ⟨RX7, "ask", "()I"⟩
abbrev cX7_rate : ByteArray := prog_9_method_53_code
def yX7_rate : MethodName := ⟨RX7, "rate", "(II)I"⟩
abbrev cX7_keep : ByteArray := prog_9_method_54_code
def yX7_keep : MethodName := ⟨RX7, "keep", "(I)I"⟩
abbrev cX7_again : ByteArray := prog_9_method_55_code
def yX7_again : MethodName := ⟨RX7, "again", "(I)I"⟩
abbrev cX7_count : ByteArray := prog_9_method_56_code
def yX7_count : MethodName := ⟨RX7, "count", "(I)I"⟩
abbrev cX7_trace : ByteArray := prog_9_method_57_code
def yX7_trace : MethodName := ⟨RX7, "trace", "()J"⟩
def RJ6 : String := "java/lang/Integer"
def TJ6 : u_T := fun k => match k with
  | _ => ("", "", "", false)
def tyJ6 : Nat → FieldType := fun k => match k with
  | _ => .int
abbrev wsJ60 : List Cond := u_ws RJ6 TJ6 0
theorem nmJ6 : ∀ a, a < 0 → ∀ b, b < 0 → a ≠ b → (TJ6 a).2.1 ≠ (TJ6 b).2.1 := by decide +kernel
theorem tyJ6_ok : ∀ k, k < 0 → parseFieldDescriptor (TJ6 k).2.2.1 = some (tyJ6 k) := by decide +kernel
abbrev cJ6_bitCount_0f7a4 : ByteArray := prog_10_method_49_code
def yJ6_bitCount_0f7a4 : MethodName := ⟨RJ6, "bitCount", "(I)I"⟩
def RJ9 : String := "java/lang/Math"
def TJ9 : u_T := fun k => match k with
  | _ => ("", "", "", false)
def tyJ9 : Nat → FieldType := fun k => match k with
  | _ => .int
abbrev wsJ90 : List Cond := u_ws RJ9 TJ9 0
theorem nmJ9 : ∀ a, a < 0 → ∀ b, b < 0 → a ≠ b → (TJ9 a).2.1 ≠ (TJ9 b).2.1 := by decide +kernel
theorem tyJ9_ok : ∀ k, k < 0 → parseFieldDescriptor (TJ9 k).2.2.1 = some (tyJ9 k) := by decide +kernel
abbrev cJ9_max_7cf53 : ByteArray := prog_11_method_65_code
def yJ9_max_7cf53 : MethodName := ⟨RJ9, "max", "(II)I"⟩
abbrev cJ9_min_7cf53 : ByteArray := prog_11_method_69_code
def yJ9_min_7cf53 : MethodName := ⟨RJ9, "min", "(II)I"⟩
def RJ7 : String := "java/util/Arrays"
def TJ7 : u_T := fun k => match k with
  | _ => ("", "", "", false)
def tyJ7 : Nat → FieldType := fun k => match k with
  | _ => .int
abbrev wsJ70 : List Cond := u_ws RJ7 TJ7 0
theorem nmJ7 : ∀ a, a < 0 → ∀ b, b < 0 → a ≠ b → (TJ7 a).2.1 ≠ (TJ7 b).2.1 := by decide +kernel
theorem tyJ7_ok : ∀ k, k < 0 → parseFieldDescriptor (TJ7 k).2.2.1 = some (tyJ7 k) := by decide +kernel
abbrev cJ7_fill_d0a16 : ByteArray := prog_12_method_101_code
def yJ7_fill_d0a16 : MethodName := ⟨RJ7, "fill", "([JJ)V"⟩
def RL : String := "PlushFlocksLaw"
abbrev cL_law : ByteArray := code
def yL_law : MethodName := ⟨RL, "law", "([I)Z"⟩
theorem inJ6 : ∀ w ∈ wsJ60, w ∈ lw_tbl := by decide +kernel
theorem inJ9 : ∀ w ∈ wsJ90, w ∈ lw_tbl := by decide +kernel
theorem inJ7 : ∀ w ∈ wsJ70, w ∈ lw_tbl := by decide +kernel
abbrev vwCl : List vw_C := [(RX0, TX0, 6), (RX1, TX1, 7), (RX2, TX2, 3), (RX3, TX3, 10), (RX4, TX4, 9), (RX5, TX5, 5), (RX6, TX6, 11), (RX7, TX7, 19)]
end
section
/-! ===== A PURE MACHINE: the instructions that the claim's classes use, over a heap that is a function; no frames, no warming, no tables. ===== -/
abbrev qE : Type := (Nat × List Value) ⊕ (Nat × vp_A)
abbrev qH : Type := (Nat → Option qE) × Nat × Nat
abbrev qL : Type := List (Nat × Value)
abbrev qR : Type := Option Value × qH
abbrev qI : Type := Instr × Nat × Option (List Nat) × List Nat × Value × List (Int32 × Nat)
abbrev qM : Type := (MethodName × ByteArray × Nat × Option FieldType) × (String × Nat × Nat) × List Nat × List (Nat × qI)
abbrev qC : Type := Nat → List Value → qH → Option qR
def q_ob {β α : Type} (o : Option β) (d : α) (f : β → α) : α := match o with
  | none => d
  | some x => f x
def q_bt {α : Type} (b : Bool) (x y : α) : α := match b with
  | true => x
  | false => y
def q_int (v : Value) : Option Int32 := match v with
  | .int x => some x
  | _ => none
def q_long (v : Value) : Option Int64 := match v with
  | .long x => some x
  | _ => none
def q_ref (v : Value) : Option Nat := match v with
  | .ref x => some x
  | _ => none
def q_rn (v : Value) : Option Value := match v with
  | .ref x => some (.ref x)
  | .null => some .null
  | _ => none
-- the locals
def q_rdI (L : qL) (i : Nat) : Option Int32 := match L.lookup i with
  | some v => q_int v
  | none => none
def q_rdL (L : qL) (i : Nat) : Option Int64 := match L.lookup i with
  | some v => q_long v
  | none => none
def q_rdA (L : qL) (i : Nat) : Option Value := match L.lookup i with
  | some v => q_rn v
  | none => none
def q_st1 (L : qL) (i : Nat) (v : Value) : qL := (i, v) :: L.filter (fun q => !(q.1 == i) && !(q.1 + 1 == i && q.2.category == 2))
def q_st2 (L : qL) (i : Nat) (v : Value) : qL := (i, v) :: L.filter (fun q => !(q.1 == i) && (!(q.1 == i + 1) && !(q.1 + 1 == i && q.2.category == 2)))
def q_pick (L : qL) : List Nat → qL
  | [] => []
  | i :: r => match L.lookup i with
    | some v => (i, v) :: q_pick L r
    | none => q_pick L r
def q_keep (o : Option (List Nat)) (L : qL) : qL := match o with
  | none => L
  | some ks => q_pick L ks
-- the heap
def q_upd (σ : qH) (a : Nat) (e : qE) : qH := (fun b => if b = a then some e else σ.1 b, σ.2)
def q_new (σ : qH) (e : qE) (n : Nat) : qH := (fun b => if b = σ.2.1 then some e else σ.1 b, σ.2.1 + 1, σ.2.2 + n)
def q_obj (σ : qH) (v : Value) (ci : Nat) : Option (List Value) := match v with
  | .ref a => (match σ.1 a with
    | some (.inl (c, fs)) => if c = ci then some fs else none
    | _ => none)
  | _ => none
def q_fld (σ : qH) (v : Value) (ci j : Nat) : Option Value := match q_obj σ v ci with
  | some fs => fs[j]?
  | none => none
def q_getI (σ : qH) (v : Value) (ci j : Nat) : Option Int32 := match q_fld σ v ci j with
  | some x => q_int x
  | none => none
def q_getL (σ : qH) (v : Value) (ci j : Nat) : Option Int64 := match q_fld σ v ci j with
  | some x => q_long x
  | none => none
def q_getR (σ : qH) (v : Value) (ci j : Nat) : Option Nat := match q_fld σ v ci j with
  | some x => q_ref x
  | none => none
/-- a field's type by a number: 0 int, 1 long, 2 a reference, 3 char, 4 boolean -/
def q_okv (t : Nat) (v : Value) : Bool := match t with
  | 0 => (match v with
    | .int _ => true
    | _ => false)
  | 1 => (match v with
    | .long _ => true
    | _ => false)
  | 2 => (match v with
    | .ref _ => true
    | .null => true
    | _ => false)
  | 3 => (match v with
    | .int x => decide (vp_nar .char x = x)
    | _ => false)
  | _ => (match v with
    | .int x => decide (vp_nar .boolean x = x)
    | _ => false)
def q_put (σ : qH) (v : Value) (ci j t : Nat) (x : Value) : Option qH := match v with
  | .ref a => (match σ.1 a with
    | some (.inl (c, fs)) => if c = ci ∧ j < fs.length ∧ q_okv t x = true then some (q_upd σ a (.inl (c, fs.set j x))) else none
    | _ => none)
  | _ => none
def q_arr (σ : qH) (v : Value) (k : Nat) : Option vp_A := match v with
  | .ref a => (match σ.1 a with
    | some (.inr (c, x)) => if c = k then some x else none
    | _ => none)
  | _ => none
def q_aldI (σ : qH) (v : Value) (k : Nat) (i : Int32) : Option Int32 := match q_arr σ v k with
  | some (n, .inl f) => if i < 0 ∨ n ≤ i.toNatClampNeg then none else some (f i.toNatClampNeg)
  | _ => none
def q_aldL (σ : qH) (v : Value) (i : Int32) : Option Int64 := match q_arr σ v 2 with
  | some (n, .inr (.inl f)) => if i < 0 ∨ n ≤ i.toNatClampNeg then none else some (f i.toNatClampNeg)
  | _ => none
def q_aldR (σ : qH) (v : Value) (i : Int32) : Option Nat := match q_arr σ v 4 with
  | some (n, .inr (.inr (.inr (.inr f)))) => if i < 0 ∨ n ≤ i.toNatClampNeg then none else f i.toNatClampNeg
  | _ => none
def q_astI (σ : qH) (v : Value) (k : Nat) (i x : Int32) : Option qH := match v with
  | .ref a => (match q_arr σ v k with
    | some (n, .inl f) => if i < 0 ∨ n ≤ i.toNatClampNeg then none else some (q_upd σ a (.inr (k, (n, .inl (upd f i.toNatClampNeg x)))))
    | _ => none)
  | _ => none
def q_astL (σ : qH) (v : Value) (i : Int32) (x : Int64) : Option qH := match v with
  | .ref a => (match q_arr σ v 2 with
    | some (n, .inr (.inl f)) => if i < 0 ∨ n ≤ i.toNatClampNeg then none else some (q_upd σ a (.inr (2, (n, .inr (.inl (vp_updL f i.toNatClampNeg x))))))
    | _ => none)
  | _ => none
def q_astR (σ : qH) (v : Value) (i : Int32) (x : Nat) : Option qH := match v with
  | .ref a => (match q_arr σ v 4 with
    | some (n, .inr (.inr (.inr (.inr f)))) => if (i < 0 ∨ n ≤ i.toNatClampNeg) ∨ q_obj σ (.ref x) 0 = none then none else some (q_upd σ a (.inr (4, (n, .inr (.inr (.inr (.inr (va_up f i.toNatClampNeg (some x)))))))))
    | _ => none)
  | _ => none
def q_alen (σ : qH) (v : Value) (k : Nat) : Option Int32 := match q_arr σ v k with
  | some x => some (Int32.ofNat x.1)
  | none => none
/-- a new array's kind: 0 char, 1 int, 2 long, 3 boolean, 4 Evening -/
def q_zero (k n : Nat) : vp_A := match k with
  | 2 => (n, .inr (.inl (fun _ => 0)))
  | 4 => (n, .inr (.inr (.inr (.inr (fun _ => none)))))
  | _ => (n, .inl (fun _ => 0))
def q_newa (σ : qH) (k : Nat) (n : Int32) : Option qH := if n < 0 ∨ 60000 < n.toNatClampNeg then none else some (q_new σ (.inr (k, q_zero k n.toNatClampNeg)) n.toNatClampNeg)
def q_dfl (ci : Nat) : List Value := match ci with
  | 0 => [.int 0, .long 0, .long 0, .long 0, .int 0, .int 0]
  | 1 => [.long 0, .long 0, .long 0, .int 0, .int 0, .int 0, .int 0]
  | 2 => [.null, .int 0, .int 0]
  | 3 => [.int 0, .int 0, .int 0, .int 0, .long 0, .long 0, .long 0, .int 0, .long 0, .long 0]
  | 4 => [.null, .int 0, .int 0, .int 0, .int 0, .int 0, .int 0, .int 0, .null]
  | 5 => [.null, .null, .int 0, .int 0, .int 0]
  | 6 => [.null, .int 0, .null, .null, .null, .null, .null, .int 0, .null, .null, .long 0]
  | _ => [.long 0, .null, .int 0, .null, .null, .null, .null, .int 0, .null, .null, .null, .int 0, .int 0, .int 0, .int 0, .int 0, .null, .null, .null]
-- calls: the outcome by the kind of the answer
def q_cV (o : Option qR) : Option qH := match o with
  | some (none, σ) => some σ
  | _ => none
def q_cI (o : Option qR) : Option (Int32 × qH) := match o with
  | some (some (.int x), σ) => some (x, σ)
  | _ => none
def q_cL (o : Option qR) : Option (Int64 × qH) := match o with
  | some (some (.long x), σ) => some (x, σ)
  | _ => none
def q_cR (o : Option qR) : Option (Option Nat × qH) := match o with
  | some (some (.ref x), σ) => some (some x, σ)
  | some (some .null, σ) => some (none, σ)
  | _ => none
def q_sw {α : Type} (K : Nat → α) (x : Int32) (d : Nat) : List (Int32 × Nat) → α
  | [] => K d
  | p :: r => if x = p.1 then K p.2 else q_sw K x d r
def q_inv {α : Type} (k : Nat) (call : qC) (fl : α) (K : Nat → qL → List Value → qH → α) (nx : Nat) (ax : List Nat) (L : qL) (st : List Value) (σ : qH) : α :=
  q_bt (Nat.blt (ax.getD 0 0) k && Nat.ble (ax.getD 1 0) st.length && Nat.ble (st.drop (ax.getD 1 0)).length 4) (
    match ax.getD 2 0 with
    | 0 => q_ob (q_cV (call (ax.getD 0 0) (st.take (ax.getD 1 0)).reverse σ)) fl fun s => K nx L (st.drop (ax.getD 1 0)) s
    | 1 => q_ob (q_cI (call (ax.getD 0 0) (st.take (ax.getD 1 0)).reverse σ)) fl fun p => K nx L (.int p.1 :: st.drop (ax.getD 1 0)) p.2
    | 2 => q_ob (q_cL (call (ax.getD 0 0) (st.take (ax.getD 1 0)).reverse σ)) fl fun p => K nx L (.long p.1 :: st.drop (ax.getD 1 0)) p.2
    | _ => q_ob (q_cR (call (ax.getD 0 0) (st.take (ax.getD 1 0)).reverse σ)) fl fun p => match p.1 with
      | some a => K nx L (.ref a :: st.drop (ax.getD 1 0)) p.2
      | none => K nx L (.null :: st.drop (ax.getD 1 0)) p.2) fl
/-- one instruction: what it does with the rest K -/
def q_G {α : Type} (k : Nat) (call : qC) (fl : α) (rt : qR → α) (K : Nat → qL → List Value → qH → α) (ins : Instr) (nx : Nat) (ax : List Nat) (cv : Value) (sw : List (Int32 × Nat)) (L : qL) (st : List Value) (σ : qH) : α :=
  match ins with
  | .iconst _ => K nx L (cv :: st) σ
  | .bipush _ => K nx L (cv :: st) σ
  | .sipush _ => K nx L (cv :: st) σ
  | .ldc _ => K nx L (cv :: st) σ
  | .ldc_w _ => K nx L (cv :: st) σ
  | .lconst _ => K nx L (cv :: st) σ
  | .ldc2_w _ => K nx L (cv :: st) σ
  | .aconst_null => K nx L (.null :: st) σ
  | .iload _ => q_ob (q_rdI L (ax.getD 0 0)) fl fun x => K nx L (.int x :: st) σ
  | .iload_n _ => q_ob (q_rdI L (ax.getD 0 0)) fl fun x => K nx L (.int x :: st) σ
  | .lload _ => q_ob (q_rdL L (ax.getD 0 0)) fl fun x => K nx L (.long x :: st) σ
  | .lload_n _ => q_ob (q_rdL L (ax.getD 0 0)) fl fun x => K nx L (.long x :: st) σ
  | .aload _ => q_ob (q_rdA L (ax.getD 0 0)) fl fun x => K nx L (x :: st) σ
  | .aload_n _ => q_ob (q_rdA L (ax.getD 0 0)) fl fun x => K nx L (x :: st) σ
  | .istore _ => (match st with
    | .int x :: r => K nx (q_st1 L (ax.getD 0 0) (.int x)) r σ
    | _ => fl)
  | .istore_n _ => (match st with
    | .int x :: r => K nx (q_st1 L (ax.getD 0 0) (.int x)) r σ
    | _ => fl)
  | .lstore _ => (match st with
    | .long x :: r => K nx (q_st2 L (ax.getD 0 0) (.long x)) r σ
    | _ => fl)
  | .lstore_n _ => (match st with
    | .long x :: r => K nx (q_st2 L (ax.getD 0 0) (.long x)) r σ
    | _ => fl)
  | .astore _ => (match st with
    | .ref x :: r => K nx (q_st1 L (ax.getD 0 0) (.ref x)) r σ
    | .null :: r => K nx (q_st1 L (ax.getD 0 0) .null) r σ
    | _ => fl)
  | .astore_n _ => (match st with
    | .ref x :: r => K nx (q_st1 L (ax.getD 0 0) (.ref x)) r σ
    | .null :: r => K nx (q_st1 L (ax.getD 0 0) .null) r σ
    | _ => fl)
  | .iinc _ _ => q_ob (q_rdI L (ax.getD 0 0)) fl fun x => (match cv with
    | .int c => K nx (q_st1 L (ax.getD 0 0) (.int (x + c))) st σ
    | _ => fl)
  | .iadd => (match st with
    | .int y :: .int x :: r => K nx L (.int (x + y) :: r) σ
    | _ => fl)
  | .isub => (match st with
    | .int y :: .int x :: r => K nx L (.int (x - y) :: r) σ
    | _ => fl)
  | .imul => (match st with
    | .int y :: .int x :: r => K nx L (.int (x * y) :: r) σ
    | _ => fl)
  | .iand => (match st with
    | .int y :: .int x :: r => K nx L (.int (x &&& y) :: r) σ
    | _ => fl)
  | .ior => (match st with
    | .int y :: .int x :: r => K nx L (.int (x ||| y) :: r) σ
    | _ => fl)
  | .ixor => (match st with
    | .int y :: .int x :: r => K nx L (.int (x ^^^ y) :: r) σ
    | _ => fl)
  | .idiv => (match st with
    | .int y :: .int x :: r => if y = 0 then fl else K nx L (.int (x / y) :: r) σ
    | _ => fl)
  | .irem => (match st with
    | .int y :: .int x :: r => if y = 0 then fl else K nx L (.int (x - x / y * y) :: r) σ
    | _ => fl)
  | .ishl => (match st with
    | .int y :: .int x :: r => K nx L (.int (x <<< (y &&& 31)) :: r) σ
    | _ => fl)
  | .ishr => (match st with
    | .int y :: .int x :: r => K nx L (.int (x >>> (y &&& 31)) :: r) σ
    | _ => fl)
  | .iushr => (match st with
    | .int y :: .int x :: r => K nx L (.int (x.toUInt32 >>> (y.toUInt32 &&& Int32.toUInt32 31)).toInt32 :: r) σ
    | _ => fl)
  | .ladd => (match st with
    | .long y :: .long x :: r => K nx L (.long (x + y) :: r) σ
    | _ => fl)
  | .land => (match st with
    | .long y :: .long x :: r => K nx L (.long (x &&& y) :: r) σ
    | _ => fl)
  | .lor => (match st with
    | .long y :: .long x :: r => K nx L (.long (x ||| y) :: r) σ
    | _ => fl)
  | .lxor => (match st with
    | .long y :: .long x :: r => K nx L (.long (x ^^^ y) :: r) σ
    | _ => fl)
  | .lushr => (match st with
    | .int y :: .long x :: r => K nx L (.long (x.toUInt64 >>> (y.toInt64.toUInt64 &&& Int64.toUInt64 63)).toInt64 :: r) σ
    | _ => fl)
  | .lshl => (match st with
    | .int y :: .long x :: r => K nx L (.long (x <<< (y.toInt64 &&& 63)) :: r) σ
    | _ => fl)
  | .lshr => (match st with
    | .int y :: .long x :: r => K nx L (.long (x >>> (y.toInt64 &&& 63)) :: r) σ
    | _ => fl)
  | .lcmp => (match st with
    | .long y :: .long x :: r => K nx L (.int (lg_cmp x y) :: r) σ
    | _ => fl)
  | .i2l => (match st with
    | .int x :: r => K nx L (.long x.toInt64 :: r) σ
    | _ => fl)
  | .l2i => (match st with
    | .long x :: r => K nx L (.int x.toInt32 :: r) σ
    | _ => fl)
  | .i2c => (match st with
    | .int x :: r => K nx L (.int (x.toUInt32 % 65536).toInt32 :: r) σ
    | _ => fl)
  | .pop => (match st with
    | .int _ :: r => K nx L r σ
    | _ => fl)
  | .dup => (match st with
    | .int x :: r => K nx L (.int x :: .int x :: r) σ
    | .ref x :: r => K nx L (.ref x :: .ref x :: r) σ
    | _ => fl)
  | .dup2 => (match st with
    | .long x :: r => K nx L (.long x :: .long x :: r) σ
    | .int y :: .ref x :: r => K nx L (.int y :: .ref x :: .int y :: .ref x :: r) σ
    | _ => fl)
  | .goto _ => K (ax.getD 0 0) L st σ
  | .if_icmp c _ => (match st with
    | .int y :: .int x :: r => (match c with
      | .eq => if x = y then K (ax.getD 0 0) L r σ else K nx L r σ
      | .ne => if x = y then K nx L r σ else K (ax.getD 0 0) L r σ
      | .lt => if x < y then K (ax.getD 0 0) L r σ else K nx L r σ
      | .ge => if y ≤ x then K (ax.getD 0 0) L r σ else K nx L r σ
      | .gt => if y < x then K (ax.getD 0 0) L r σ else K nx L r σ
      | .le => if x ≤ y then K (ax.getD 0 0) L r σ else K nx L r σ)
    | _ => fl)
  | .ifCond c _ => (match st with
    | .int x :: r => (match c with
      | .eq => if x = 0 then K (ax.getD 0 0) L r σ else K nx L r σ
      | .ne => if x = 0 then K nx L r σ else K (ax.getD 0 0) L r σ
      | .lt => if x < 0 then K (ax.getD 0 0) L r σ else K nx L r σ
      | .ge => if 0 ≤ x then K (ax.getD 0 0) L r σ else K nx L r σ
      | .gt => if 0 < x then K (ax.getD 0 0) L r σ else K nx L r σ
      | .le => if x ≤ 0 then K (ax.getD 0 0) L r σ else K nx L r σ)
    | _ => fl)
  | .ifnull _ => (match st with
    | .ref _ :: r => K nx L r σ
    | .null :: r => K (ax.getD 0 0) L r σ
    | _ => fl)
  | .ifnonnull _ => (match st with
    | .ref _ :: r => K (ax.getD 0 0) L r σ
    | .null :: r => K nx L r σ
    | _ => fl)
  | .tableswitch _ _ _ _ => (match st with
    | .int x :: r => q_sw (fun p => K p L r σ) x (ax.getD 0 0) sw
    | _ => fl)
  | .lookupswitch _ _ => (match st with
    | .int x :: r => q_sw (fun p => K p L r σ) x (ax.getD 0 0) sw
    | _ => fl)
  | .getfield _ => (match st with
    | v :: r => (match ax.getD 2 0 with
      | 0 => q_ob (q_getI σ v (ax.getD 0 0) (ax.getD 1 0)) fl fun x => K nx L (.int x :: r) σ
      | 1 => q_ob (q_getL σ v (ax.getD 0 0) (ax.getD 1 0)) fl fun x => K nx L (.long x :: r) σ
      | _ => q_ob (q_getR σ v (ax.getD 0 0) (ax.getD 1 0)) fl fun x => K nx L (.ref x :: r) σ)
    | _ => fl)
  | .putfield _ => (match st with
    | x :: v :: r => q_ob (q_put σ v (ax.getD 0 0) (ax.getD 1 0) (ax.getD 2 0) x) fl fun s => K nx L r s
    | _ => fl)
  | .iaload => (match st with
    | .int i :: v :: r => q_ob (q_aldI σ v (ax.getD 0 0) i) fl fun x => K nx L (.int x :: r) σ
    | _ => fl)
  | .caload => (match st with
    | .int i :: v :: r => q_ob (q_aldI σ v 0 i) fl fun x => K nx L (.int x :: r) σ
    | _ => fl)
  | .baload => (match st with
    | .int i :: v :: r => q_ob (q_aldI σ v 3 i) fl fun x => K nx L (.int x :: r) σ
    | _ => fl)
  | .laload => (match st with
    | .int i :: v :: r => q_ob (q_aldL σ v i) fl fun x => K nx L (.long x :: r) σ
    | _ => fl)
  | .aaload => (match st with
    | .int i :: v :: r => q_ob (q_aldR σ v i) fl fun x => K nx L (.ref x :: r) σ
    | _ => fl)
  | .iastore => (match st with
    | .int x :: .int i :: v :: r => q_ob (q_astI σ v 1 i x) fl fun s => K nx L r s
    | _ => fl)
  | .castore => (match st with
    | .int x :: .int i :: v :: r => q_ob (q_astI σ v 0 i (vp_nar .char x)) fl fun s => K nx L r s
    | _ => fl)
  | .bastore => (match st with
    | .int x :: .int i :: v :: r => q_ob (q_astI σ v 3 i (vp_nar .boolean x)) fl fun s => K nx L r s
    | _ => fl)
  | .lastore => (match st with
    | .long x :: .int i :: v :: r => q_ob (q_astL σ v i x) fl fun s => K nx L r s
    | _ => fl)
  | .aastore => (match st with
    | .ref x :: .int i :: v :: r => q_ob (q_astR σ v i x) fl fun s => K nx L r s
    | _ => fl)
  | .arraylength => (match st with
    | v :: r => q_ob (q_alen σ v (ax.getD 0 0)) fl fun x => K nx L (.int x :: r) σ
    | _ => fl)
  | .new _ => K nx L (.ref σ.2.1 :: st) (q_new σ (.inl (ax.getD 0 0, q_dfl (ax.getD 0 0))) (ax.getD 1 0))
  | .newarray _ => (match st with
    | .int n :: r => q_ob (q_newa σ (ax.getD 0 0) n) fl fun s => K nx L (.ref σ.2.1 :: r) s
    | _ => fl)
  | .anewarray _ => (match st with
    | .int n :: r => q_ob (q_newa σ 4 n) fl fun s => K nx L (.ref σ.2.1 :: r) s
    | _ => fl)
  | .invokevirtual _ => q_inv k call fl K nx ax L st σ
  | .invokestatic _ => q_inv k call fl K nx ax L st σ
  | .invokespecial _ => q_bt (Nat.beq (ax.getD 0 0) 999) (match st with
      | .ref _ :: r => q_bt (Nat.ble r.length 4) (K nx L r σ) fl
      | _ => fl) (q_inv k call fl K nx ax L st σ)
  | .ireturn => (match st with
    | [.int x] => q_bt (q_okv (ax.getD 0 0) (.int x)) (rt (some (.int x), σ)) fl
    | _ => fl)
  | .lreturn => (match st with
    | [.long x] => rt (some (.long x), σ)
    | _ => fl)
  | .areturn => (match st with
    | [.ref x] => rt (some (.ref x), σ)
    | [.null] => rt (some .null, σ)
    | _ => fl)
  | .return_ => (match st with
    | [] => rt (none, σ)
    | _ => fl)
  | _ => fl
/-- one step of method number k, with the rows 'cd' -/
def q_F {α : Type} (k : Nat) (cd : List (Nat × qI)) (call : qC) (fl : α) (rt : qR → α) (K : Nat → qL → List Value → qH → α) (pc : Nat) (L : qL) (st : List Value) (σ : qH) : α :=
  match cd.lookup pc with
  | none => fl
  | some e => q_G k call fl rt K e.1 e.2.1 e.2.2.2.1 e.2.2.2.2.1 e.2.2.2.2.2 (q_keep e.2.2.1 L) st σ
-- what a step does, told without its rest
abbrev qT : Type := Option (qR ⊕ (Nat × qL × List Value × qH))
def q_join {α : Type} (fl : α) (rt : qR → α) (K : Nat → qL → List Value → qH → α) (t : qT) : α := match t with
  | none => fl
  | some (.inl r) => rt r
  | some (.inr s) => K s.1 s.2.1 s.2.2.1 s.2.2.2
def q_K : Nat → qL → List Value → qH → qT := fun p L st σ => some (.inr (p, L, st, σ))
def q_step (k : Nat) (cd : List (Nat × qI)) (call : qC) (pc : Nat) (L : qL) (st : List Value) (σ : qH) : qT := q_F k cd call none (fun r => some (.inl r)) q_K pc L st σ
theorem q_ob_join {β α : Type} (fl : α) (rt : qR → α) (K : Nat → qL → List Value → qH → α) (o : Option β) (f : β → qT) : q_join fl rt K (q_ob o none f) = q_ob o fl (fun x => q_join fl rt K (f x)) := by
  cases o <;> rfl
theorem q_bt_join {α : Type} (fl : α) (rt : qR → α) (K : Nat → qL → List Value → qH → α) (b : Bool) (x y : qT) : q_join fl rt K (q_bt b x y) = q_bt b (q_join fl rt K x) (q_join fl rt K y) := by
  cases b <;> rfl
theorem q_sw_join {α : Type} (fl : α) (rt : qR → α) (K : Nat → qL → List Value → qH → α) (f : Nat → qT) (x : Int32) (d : Nat) (sw : List (Int32 × Nat)) : q_join fl rt K (q_sw f x d sw) = q_sw (fun p => q_join fl rt K (f p)) x d sw := by
  induction sw with
  | nil => rfl
  | cons p r ih =>
    unfold q_sw
    split
    · rfl
    · exact ih
theorem q_inv_join {α : Type} (k : Nat) (call : qC) (fl : α) (rt : qR → α) (K : Nat → qL → List Value → qH → α) (nx : Nat) (ax : List Nat) (L : qL) (st : List Value) (σ : qH) :
    q_inv k call fl K nx ax L st σ = q_join fl rt K (q_inv k call none q_K nx ax L st σ) := by
  unfold q_inv
  rw [q_bt_join]
  congr 1
  split
  · rw [q_ob_join]; rfl
  · rw [q_ob_join]; rfl
  · rw [q_ob_join]; rfl
  · rw [q_ob_join]
    congr 1
    funext p
    cases p.1 <;> rfl
set_option maxHeartbeats 4000000 in
theorem q_G_join {α : Type} (k : Nat) (call : qC) (fl : α) (rt : qR → α) (K : Nat → qL → List Value → qH → α) (ins : Instr) (nx : Nat) (ax : List Nat) (cv : Value) (sw : List (Int32 × Nat)) (L : qL) (st : List Value) (σ : qH) :
    q_G k call fl rt K ins nx ax cv sw L st σ = q_join fl rt K (q_G k call none (fun r => some (.inl r)) q_K ins nx ax cv sw L st σ) := by
  unfold q_G
  cases ins <;> (try rfl) <;> dsimp only <;> (try (rw [q_ob_join]; rfl)) <;> (try exact q_inv_join k call fl rt K nx ax L st σ) <;>
    (repeat' split) <;> (try rfl) <;> (try (rw [q_ob_join]; rfl)) <;> (try (rw [q_sw_join]; rfl)) <;> (try (rw [q_bt_join]; rfl)) <;> (try (rw [q_ob_join]; congr 1; done))
  · rw [q_bt_join, q_bt_join, ← q_inv_join]
    rfl
  · rw [q_bt_join, ← q_inv_join]
    rfl
theorem q_F_join {α : Type} (k : Nat) (cd : List (Nat × qI)) (call : qC) (fl : α) (rt : qR → α) (K : Nat → qL → List Value → qH → α) (pc : Nat) (L : qL) (st : List Value) (σ : qH) :
    q_F k cd call fl rt K pc L st σ = q_join fl rt K (q_step k cd call pc L st σ) := by
  unfold q_step q_F
  split
  · rfl
  · exact q_G_join ..
theorem q_inv_congr {α : Type} {k : Nat} {c1 c2 : qC} (h : ∀ j, j < k → c1 j = c2 j) (fl : α) (K : Nat → qL → List Value → qH → α) (nx : Nat) (ax : List Nat) (L : qL) (st : List Value) (σ : qH) :
    q_inv k c1 fl K nx ax L st σ = q_inv k c2 fl K nx ax L st σ := by
  unfold q_inv
  by_cases hj : ax.getD 0 0 < k
  · rw [h _ hj]
  · have e : Nat.blt (ax.getD 0 0) k = false := by
      cases hb : Nat.blt (ax.getD 0 0) k with
      | false => rfl
      | true => exact absurd (Nat.blt_eq.mp hb) hj
    rw [e]
    rfl
theorem q_F_congr {α : Type} {k : Nat} {c1 c2 : qC} (h : ∀ j, j < k → c1 j = c2 j) (cd : List (Nat × qI)) (fl : α) (rt : qR → α) (K : Nat → qL → List Value → qH → α) (pc : Nat) (L : qL) (st : List Value) (σ : qH) :
    q_F k cd c1 fl rt K pc L st σ = q_F k cd c2 fl rt K pc L st σ := by
  unfold q_F
  split
  · rfl
  · unfold q_G
    split <;> (try rfl)
    · exact q_inv_congr h ..
    · exact q_inv_congr h ..
    · rw [q_inv_congr h]
-- runs of bounded length, and their limit
def q_it (k : Nat) (cd : List (Nat × qI)) (call : qC) : Nat → Nat → qL → List Value → qH → Option qR
  | 0 => fun _ _ _ _ => none
  | n + 1 => q_F k cd call none some (q_it k cd call n)
theorem q_it_mono {k : Nat} {cd : List (Nat × qI)} {call : qC} : ∀ (n : Nat) (pc : Nat) (L : qL) (st : List Value) (σ : qH) (r : qR), q_it k cd call n pc L st σ = some r → q_it k cd call (n + 1) pc L st σ = some r := by
  intro n
  induction n with
  | zero => intro pc L st σ r h; cases h
  | succ n ih =>
    intro pc L st σ r h
    unfold q_it at h ⊢
    rw [q_F_join] at h ⊢
    cases hs : q_step k cd call pc L st σ with
    | none => rw [hs] at h; cases h
    | some x =>
      rw [hs] at h
      cases x with
      | inl r0 => exact h
      | inr s => exact ih _ _ _ _ _ h
theorem q_it_le {k : Nat} {cd : List (Nat × qI)} {call : qC} {n m : Nat} (hnm : n ≤ m) {pc : Nat} {L : qL} {st : List Value} {σ : qH} {r : qR} (h : q_it k cd call n pc L st σ = some r) : q_it k cd call m pc L st σ = some r := by
  induction hnm with
  | refl => exact h
  | step _ ih => exact q_it_mono _ _ _ _ _ _ ih
noncomputable def q_lim (f : Nat → Option qR) : Option qR := by
  classical exact if h : ∃ n, (f n).isSome = true then f h.choose else none
theorem q_lim_iff {f : Nat → Option qR} (hm : ∀ n m r, n ≤ m → f n = some r → f m = some r) (r : qR) : q_lim f = some r ↔ ∃ n, f n = some r := by
  classical
  unfold q_lim
  by_cases h : ∃ n, (f n).isSome = true
  · rw [dif_pos h]
    constructor
    · intro e; exact ⟨_, e⟩
    · rintro ⟨n, e⟩
      obtain ⟨r2, e2⟩ := Option.isSome_iff_exists.mp h.choose_spec
      rcases Nat.le_total n h.choose with q | q
      · rw [hm _ _ _ q e]
      · have := hm _ _ _ q e2
        rw [e] at this
        rw [e2]; exact this.symm
  · rw [dif_neg h]
    constructor
    · intro e; cases e
    · rintro ⟨n, e⟩
      exact absurd ⟨n, by rw [e]; rfl⟩ h
noncomputable def q_rn0 (k : Nat) (cd : List (Nat × qI)) (call : qC) (pc : Nat) (L : qL) (st : List Value) (σ : qH) : Option qR := q_lim fun n => q_it k cd call n pc L st σ
theorem q_rn0_iff {k : Nat} {cd : List (Nat × qI)} {call : qC} {pc : Nat} {L : qL} {st : List Value} {σ : qH} (r : qR) : q_rn0 k cd call pc L st σ = some r ↔ ∃ n, q_it k cd call n pc L st σ = some r :=
  q_lim_iff (fun _ _ _ h e => q_it_le h e) r
theorem q_opt_ext {α : Type} {a b : Option α} (h : ∀ r, a = some r ↔ b = some r) : a = b := by
  cases a with
  | none =>
    cases b with
    | none => rfl
    | some y => exact absurd ((h y).mpr rfl) (by simp)
  | some x => exact ((h x).mp rfl).symm
theorem q_rn0_eq (k : Nat) (cd : List (Nat × qI)) (call : qC) (pc : Nat) (L : qL) (st : List Value) (σ : qH) : q_rn0 k cd call pc L st σ = q_F k cd call none some (q_rn0 k cd call) pc L st σ := by
  apply q_opt_ext
  intro r
  rw [q_rn0_iff, q_F_join]
  cases hs : q_step k cd call pc L st σ with
  | none =>
    constructor
    · rintro ⟨n, e⟩
      cases n with
      | zero => cases e
      | succ n => unfold q_it at e; rw [q_F_join, hs] at e; cases e
    · intro e; cases e
  | some x =>
    cases x with
    | inl r0 =>
      constructor
      · rintro ⟨n, e⟩
        cases n with
        | zero => cases e
        | succ n => unfold q_it at e; rw [q_F_join, hs] at e; exact e
      · intro e
        exact ⟨1, by unfold q_it; rw [q_F_join, hs]; exact e⟩
    | inr s =>
      show _ ↔ q_rn0 k cd call s.1 s.2.1 s.2.2.1 s.2.2.2 = some r
      rw [q_rn0_iff]
      constructor
      · rintro ⟨n, e⟩
        cases n with
        | zero => cases e
        | succ n => unfold q_it at e; rw [q_F_join, hs] at e; exact ⟨n, e⟩
      · rintro ⟨n, e⟩
        exact ⟨n + 1, by unfold q_it; rw [q_F_join, hs]; exact e⟩
-- a method's entry: the receiver is an object of the class; the arguments' number and width
def q_ent (M : qM) (args : List Value) (σ : qH) (R : Nat → qL → List Value → qH → Option qR) : Option qR :=
  q_bt ((Nat.beq M.2.1.2.2 1 == false || (q_obj σ (args.headD .null) M.2.1.2.1).isSome) && Nat.beq args.length (M.2.2.1.getD 4 0) && Nat.ble (lg_sl args).length M.1.2.2.1) (R 0 (lv_args 0 args) [] σ) none
noncomputable def q_cn (ms : Nat → qM) : Nat → qC
  | 0 => fun _ _ _ => none
  | n + 1 => fun j args σ => q_bt (Nat.beq j n) (q_ent (ms n) args σ (q_rn0 n (ms n).2.2.2 (q_cn ms n))) (q_cn ms n j args σ)
theorem q_cn_lt (ms : Nat → qM) {j : Nat} : ∀ n, j < n → q_cn ms n j = q_cn ms (j + 1) j := by
  intro n
  induction n with
  | zero => intro h; omega
  | succ n ih =>
    intro h
    by_cases e : j = n
    · rw [e]
    · rw [← ih (by omega)]
      funext args σ
      have hb : Nat.beq j n = false := by
        cases hb : Nat.beq j n with
        | false => rfl
        | true => exact absurd (Nat.eq_of_beq_eq_true hb) e
      show q_bt (Nat.beq j n) _ _ = _
      rw [hb]
      rfl
theorem q_it_congr {k : Nat} {c1 c2 : qC} (h : ∀ j, j < k → c1 j = c2 j) (cd : List (Nat × qI)) : ∀ n, q_it k cd c1 n = q_it k cd c2 n := by
  intro n
  induction n with
  | zero => rfl
  | succ n ih =>
    funext pc L st σ
    show q_F k cd c1 none some (q_it k cd c1 n) pc L st σ = q_F k cd c2 none some (q_it k cd c2 n) pc L st σ
    rw [ih, q_F_congr h]
theorem q_rn0_congr {k : Nat} {c1 c2 : qC} (h : ∀ j, j < k → c1 j = c2 j) (cd : List (Nat × qI)) : q_rn0 k cd c1 = q_rn0 k cd c2 := by
  funext pc L st σ
  unfold q_rn0
  congr 1
  funext n
  rw [q_it_congr h cd n]
theorem q_cn_self (ms : Nat → qM) (k : Nat) (args : List Value) (σ : qH) : q_cn ms (k + 1) k args σ = q_ent (ms k) args σ (q_rn0 k (ms k).2.2.2 (fun j => q_cn ms (j + 1) j)) := by
  show q_bt (Nat.beq k k) _ _ = _
  rw [show Nat.beq k k = true from Nat.beq_refl k]
  show q_ent _ _ _ _ = _
  rw [q_rn0_congr (k := k) (c1 := q_cn ms k) (c2 := fun j => q_cn ms (j + 1) j) (fun j hj => q_cn_lt ms k hj)]
-- a step, then on until a stop
def q_un (k : Nat) (cd : List (Nat × qI)) (call : qC) (R : Nat → qL → List Value → qH → Option qR) (cuts : List Nat) : Nat → Nat → qL → List Value → qH → Option qR
  | 0 => R
  | n + 1 => fun pc L st σ => q_bt (cuts.elem pc) (R pc L st σ) (q_F k cd call none some (q_un k cd call R cuts n) pc L st σ)
theorem q_un_eq {k : Nat} {cd : List (Nat × qI)} {call : qC} {R : Nat → qL → List Value → qH → Option qR} (h : ∀ pc L st σ, R pc L st σ = q_F k cd call none some R pc L st σ) (cuts : List Nat) : ∀ n, q_un k cd call R cuts n = R := by
  intro n
  induction n with
  | zero => rfl
  | succ n ih =>
    funext pc L st σ
    show q_bt (cuts.elem pc) (R pc L st σ) (q_F k cd call none some (q_un k cd call R cuts n) pc L st σ) = _
    rw [ih, ← h]
    cases cuts.elem pc <;> rfl
end
