section
-- ===== PART A: goes FIRST, ahead of the names: the tables' words, and 'selects' of the private methods out of them =====
/-- a private method of a class that the tables say can be made, by its rows of tables_1 -/
def lw_okq (q : MethodName × Nat) : Prop := (q.1.cls ≠ "java/lang/invoke/MethodHandle" ∧ q.1.cls ≠ "java/lang/invoke/VarHandle") ∧ Cond.instantiable q.1.cls q.2 ∈ tables_1 ∧ Cond.privateMethod q.1 ∈ tables_1 ∧ Cond.instanceMethod q.1 ∈ tables_1
theorem lw_p0 : lw_okq (⟨"SneakPaths$Reader", "nextToken", "()V"⟩, 6) := ⟨⟨by decide +kernel, by decide +kernel⟩, List.mem_of_getElem? (i := 21) (by decide +kernel), List.mem_of_getElem? (i := 314) (by decide +kernel), List.mem_of_getElem? (i := 315) (by decide +kernel)⟩
theorem lw_p1 : lw_okq (⟨"SneakPaths$Reader", "letterAt", "(I)I"⟩, 6) := ⟨⟨by decide +kernel, by decide +kernel⟩, List.mem_of_getElem? (i := 21) (by decide +kernel), List.mem_of_getElem? (i := 318) (by decide +kernel), List.mem_of_getElem? (i := 319) (by decide +kernel)⟩
theorem lw_p2 : lw_okq (⟨"SneakPaths$Reader", "readItem", "(Z)Z"⟩, 6) := ⟨⟨by decide +kernel, by decide +kernel⟩, List.mem_of_getElem? (i := 21) (by decide +kernel), List.mem_of_getElem? (i := 325) (by decide +kernel), List.mem_of_getElem? (i := 326) (by decide +kernel)⟩
theorem lw_p3 : lw_okq (⟨"SneakPaths$Reader", "readNodes", "()Z"⟩, 6) := ⟨⟨by decide +kernel, by decide +kernel⟩, List.mem_of_getElem? (i := 21) (by decide +kernel), List.mem_of_getElem? (i := 329) (by decide +kernel), List.mem_of_getElem? (i := 330) (by decide +kernel)⟩
theorem lw_p4 : lw_okq (⟨"SneakPaths$Reader", "readNumber", "(II)I"⟩, 6) := ⟨⟨by decide +kernel, by decide +kernel⟩, List.mem_of_getElem? (i := 21) (by decide +kernel), List.mem_of_getElem? (i := 333) (by decide +kernel), List.mem_of_getElem? (i := 334) (by decide +kernel)⟩
theorem lw_p5 : lw_okq (⟨"SneakPaths$Reader", "readSemicolon", "()Z"⟩, 6) := ⟨⟨by decide +kernel, by decide +kernel⟩, List.mem_of_getElem? (i := 21) (by decide +kernel), List.mem_of_getElem? (i := 337) (by decide +kernel), List.mem_of_getElem? (i := 338) (by decide +kernel)⟩
theorem lw_p6 : lw_okq (⟨"SneakPaths$Reader", "readContact", "(I)Z"⟩, 6) := ⟨⟨by decide +kernel, by decide +kernel⟩, List.mem_of_getElem? (i := 21) (by decide +kernel), List.mem_of_getElem? (i := 341) (by decide +kernel), List.mem_of_getElem? (i := 342) (by decide +kernel)⟩
theorem lw_p7 : lw_okq (⟨"SneakPaths$Reader", "readLoad", "()Z"⟩, 6) := ⟨⟨by decide +kernel, by decide +kernel⟩, List.mem_of_getElem? (i := 21) (by decide +kernel), List.mem_of_getElem? (i := 349) (by decide +kernel), List.mem_of_getElem? (i := 350) (by decide +kernel)⟩
theorem lw_p8 : lw_okq (⟨"SneakPaths", "wishWhatIsFed", "()V"⟩, 10) := ⟨⟨by decide +kernel, by decide +kernel⟩, List.mem_of_getElem? (i := 13) (by decide +kernel), List.mem_of_getElem? (i := 369) (by decide +kernel), List.mem_of_getElem? (i := 370) (by decide +kernel)⟩
theorem lw_p9 : lw_okq (⟨"SneakPaths$Ways", "spreadOver", "(I)V"⟩, 7) := ⟨⟨by decide +kernel, by decide +kernel⟩, List.mem_of_getElem? (i := 179) (by decide +kernel), List.mem_of_getElem? (i := 391) (by decide +kernel), List.mem_of_getElem? (i := 392) (by decide +kernel)⟩
theorem lw_p10 : lw_okq (⟨"SneakPaths$Ways", "flow", "(III)V"⟩, 7) := ⟨⟨by decide +kernel, by decide +kernel⟩, List.mem_of_getElem? (i := 179) (by decide +kernel), List.mem_of_getElem? (i := 395) (by decide +kernel), List.mem_of_getElem? (i := 396) (by decide +kernel)⟩
theorem lw_p11 : lw_okq (⟨"SneakPaths", "isContact", "(I)Z"⟩, 10) := ⟨⟨by decide +kernel, by decide +kernel⟩, List.mem_of_getElem? (i := 13) (by decide +kernel), List.mem_of_getElem? (i := 407) (by decide +kernel), List.mem_of_getElem? (i := 408) (by decide +kernel)⟩
theorem lw_p12 : lw_okq (⟨"SneakPaths", "isLoad", "(I)Z"⟩, 10) := ⟨⟨by decide +kernel, by decide +kernel⟩, List.mem_of_getElem? (i := 13) (by decide +kernel), List.mem_of_getElem? (i := 415) (by decide +kernel), List.mem_of_getElem? (i := 416) (by decide +kernel)⟩
theorem lw_p13 : lw_okq (⟨"SneakPaths", "fedNow", "(I)I"⟩, 10) := ⟨⟨by decide +kernel, by decide +kernel⟩, List.mem_of_getElem? (i := 13) (by decide +kernel), List.mem_of_getElem? (i := 419) (by decide +kernel), List.mem_of_getElem? (i := 420) (by decide +kernel)⟩
theorem lw_p14 : lw_okq (⟨"SneakPaths", "howManyPaths", "(I)I"⟩, 10) := ⟨⟨by decide +kernel, by decide +kernel⟩, List.mem_of_getElem? (i := 13) (by decide +kernel), List.mem_of_getElem? (i := 423) (by decide +kernel), List.mem_of_getElem? (i := 424) (by decide +kernel)⟩
theorem lw_p15 : lw_okq (⟨"SneakPaths$Walk", "goOn", "(IIIII)V"⟩, 12) := ⟨⟨by decide +kernel, by decide +kernel⟩, List.mem_of_getElem? (i := 209) (by decide +kernel), List.mem_of_getElem? (i := 432) (by decide +kernel), List.mem_of_getElem? (i := 433) (by decide +kernel)⟩
def lw_privs_1 : List (MethodName × Nat) := [(⟨"SneakPaths$Reader", "nextToken", "()V"⟩, 6), (⟨"SneakPaths$Reader", "letterAt", "(I)I"⟩, 6), (⟨"SneakPaths$Reader", "readItem", "(Z)Z"⟩, 6), (⟨"SneakPaths$Reader", "readNodes", "()Z"⟩, 6), (⟨"SneakPaths$Reader", "readNumber", "(II)I"⟩, 6), (⟨"SneakPaths$Reader", "readSemicolon", "()Z"⟩, 6), (⟨"SneakPaths$Reader", "readContact", "(I)Z"⟩, 6), (⟨"SneakPaths$Reader", "readLoad", "()Z"⟩, 6), (⟨"SneakPaths", "wishWhatIsFed", "()V"⟩, 10), (⟨"SneakPaths$Ways", "spreadOver", "(I)V"⟩, 7), (⟨"SneakPaths$Ways", "flow", "(III)V"⟩, 7), (⟨"SneakPaths", "isContact", "(I)Z"⟩, 10), (⟨"SneakPaths", "isLoad", "(I)Z"⟩, 10), (⟨"SneakPaths", "fedNow", "(I)I"⟩, 10), (⟨"SneakPaths", "howManyPaths", "(I)I"⟩, 10), (⟨"SneakPaths$Walk", "goOn", "(IIIII)V"⟩, 12)]
theorem lw_r1 : ∀ q ∈ lw_privs_1, lw_okq q := List.forall_mem_cons.mpr ⟨lw_p0, List.forall_mem_cons.mpr ⟨lw_p1, List.forall_mem_cons.mpr ⟨lw_p2, List.forall_mem_cons.mpr ⟨lw_p3, List.forall_mem_cons.mpr ⟨lw_p4, List.forall_mem_cons.mpr ⟨lw_p5, List.forall_mem_cons.mpr ⟨lw_p6, List.forall_mem_cons.mpr ⟨lw_p7, List.forall_mem_cons.mpr ⟨lw_p8, List.forall_mem_cons.mpr ⟨lw_p9, List.forall_mem_cons.mpr ⟨lw_p10, List.forall_mem_cons.mpr ⟨lw_p11, List.forall_mem_cons.mpr ⟨lw_p12, List.forall_mem_cons.mpr ⟨lw_p13, List.forall_mem_cons.mpr ⟨lw_p14, List.forall_mem_cons.mpr ⟨lw_p15, fun _ h => absurd h List.not_mem_nil⟩⟩⟩⟩⟩⟩⟩⟩⟩⟩⟩⟩⟩⟩⟩⟩
theorem lw_p16 : lw_okq (⟨"SneakPaths$Walk", "arrive", "(III)V"⟩, 12) := ⟨⟨by decide +kernel, by decide +kernel⟩, List.mem_of_getElem? (i := 209) (by decide +kernel), List.mem_of_getElem? (i := 436) (by decide +kernel), List.mem_of_getElem? (i := 437) (by decide +kernel)⟩
theorem lw_p17 : lw_okq (⟨"SneakPaths$History", "dropOldest", "()V"⟩, 5) := ⟨⟨by decide +kernel, by decide +kernel⟩, List.mem_of_getElem? (i := 136) (by decide +kernel), List.mem_of_getElem? (i := 454) (by decide +kernel), List.mem_of_getElem? (i := 455) (by decide +kernel)⟩
theorem lw_p18 : lw_okq (⟨"SneakPaths", "noteMissing", "()V"⟩, 10) := ⟨⟨by decide +kernel, by decide +kernel⟩, List.mem_of_getElem? (i := 13) (by decide +kernel), List.mem_of_getElem? (i := 509) (by decide +kernel), List.mem_of_getElem? (i := 510) (by decide +kernel)⟩
theorem lw_p19 : lw_okq (⟨"SneakPaths", "isEnough", "(III)Z"⟩, 10) := ⟨⟨by decide +kernel, by decide +kernel⟩, List.mem_of_getElem? (i := 13) (by decide +kernel), List.mem_of_getElem? (i := 513) (by decide +kernel), List.mem_of_getElem? (i := 514) (by decide +kernel)⟩
theorem lw_p20 : lw_okq (⟨"SneakPaths", "loadsThatSneak", "()I"⟩, 10) := ⟨⟨by decide +kernel, by decide +kernel⟩, List.mem_of_getElem? (i := 13) (by decide +kernel), List.mem_of_getElem? (i := 576) (by decide +kernel), List.mem_of_getElem? (i := 577) (by decide +kernel)⟩
theorem lw_p21 : lw_okq (⟨"SneakPaths", "loadsThatMiss", "()I"⟩, 10) := ⟨⟨by decide +kernel, by decide +kernel⟩, List.mem_of_getElem? (i := 13) (by decide +kernel), List.mem_of_getElem? (i := 580) (by decide +kernel), List.mem_of_getElem? (i := 581) (by decide +kernel)⟩
theorem lw_p22 : lw_okq (⟨"SneakPathsModel", "begins", "()V"⟩, 24) := ⟨⟨by decide +kernel, by decide +kernel⟩, List.mem_of_getElem? (i := 584) (by decide +kernel), List.mem_of_getElem? (i := 590) (by decide +kernel), List.mem_of_getElem? (i := 591) (by decide +kernel)⟩
theorem lw_p23 : lw_okq (⟨"SneakPathsModel", "settles", "()V"⟩, 24) := ⟨⟨by decide +kernel, by decide +kernel⟩, List.mem_of_getElem? (i := 584) (by decide +kernel), List.mem_of_getElem? (i := 594) (by decide +kernel), List.mem_of_getElem? (i := 595) (by decide +kernel)⟩
theorem lw_p24 : lw_okq (⟨"SneakPathsModel", "fedIn", "(I)I"⟩, 24) := ⟨⟨by decide +kernel, by decide +kernel⟩, List.mem_of_getElem? (i := 584) (by decide +kernel), List.mem_of_getElem? (i := 598) (by decide +kernel), List.mem_of_getElem? (i := 599) (by decide +kernel)⟩
theorem lw_p25 : lw_okq (⟨"SneakPathsModel", "isFed", "(III)Z"⟩, 24) := ⟨⟨by decide +kernel, by decide +kernel⟩, List.mem_of_getElem? (i := 584) (by decide +kernel), List.mem_of_getElem? (i := 602) (by decide +kernel), List.mem_of_getElem? (i := 603) (by decide +kernel)⟩
theorem lw_p26 : lw_okq (⟨"SneakPathsModel", "live", "(II)I"⟩, 24) := ⟨⟨by decide +kernel, by decide +kernel⟩, List.mem_of_getElem? (i := 584) (by decide +kernel), List.mem_of_getElem? (i := 606) (by decide +kernel), List.mem_of_getElem? (i := 607) (by decide +kernel)⟩
theorem lw_p27 : lw_okq (⟨"SneakPathsModel", "isShut", "(II)Z"⟩, 24) := ⟨⟨by decide +kernel, by decide +kernel⟩, List.mem_of_getElem? (i := 584) (by decide +kernel), List.mem_of_getElem? (i := 613) (by decide +kernel), List.mem_of_getElem? (i := 614) (by decide +kernel)⟩
theorem lw_p28 : lw_okq (⟨"SneakPathsModel", "isWay", "(IZ)Z"⟩, 24) := ⟨⟨by decide +kernel, by decide +kernel⟩, List.mem_of_getElem? (i := 584) (by decide +kernel), List.mem_of_getElem? (i := 617) (by decide +kernel), List.mem_of_getElem? (i := 618) (by decide +kernel)⟩
theorem lw_p29 : lw_okq (⟨"SneakPathsModel", "advances", "()V"⟩, 24) := ⟨⟨by decide +kernel, by decide +kernel⟩, List.mem_of_getElem? (i := 584) (by decide +kernel), List.mem_of_getElem? (i := 709) (by decide +kernel), List.mem_of_getElem? (i := 710) (by decide +kernel)⟩
theorem lw_p30 : lw_okq (⟨"SneakPathsModel", "letterAt", "(I)I"⟩, 24) := ⟨⟨by decide +kernel, by decide +kernel⟩, List.mem_of_getElem? (i := 584) (by decide +kernel), List.mem_of_getElem? (i := 713) (by decide +kernel), List.mem_of_getElem? (i := 714) (by decide +kernel)⟩
theorem lw_p31 : lw_okq (⟨"SneakPathsModel", "isWell", "()Z"⟩, 24) := ⟨⟨by decide +kernel, by decide +kernel⟩, List.mem_of_getElem? (i := 584) (by decide +kernel), List.mem_of_getElem? (i := 720) (by decide +kernel), List.mem_of_getElem? (i := 721) (by decide +kernel)⟩
def lw_privs_2 : List (MethodName × Nat) := [(⟨"SneakPaths$Walk", "arrive", "(III)V"⟩, 12), (⟨"SneakPaths$History", "dropOldest", "()V"⟩, 5), (⟨"SneakPaths", "noteMissing", "()V"⟩, 10), (⟨"SneakPaths", "isEnough", "(III)Z"⟩, 10), (⟨"SneakPaths", "loadsThatSneak", "()I"⟩, 10), (⟨"SneakPaths", "loadsThatMiss", "()I"⟩, 10), (⟨"SneakPathsModel", "begins", "()V"⟩, 24), (⟨"SneakPathsModel", "settles", "()V"⟩, 24), (⟨"SneakPathsModel", "fedIn", "(I)I"⟩, 24), (⟨"SneakPathsModel", "isFed", "(III)Z"⟩, 24), (⟨"SneakPathsModel", "live", "(II)I"⟩, 24), (⟨"SneakPathsModel", "isShut", "(II)Z"⟩, 24), (⟨"SneakPathsModel", "isWay", "(IZ)Z"⟩, 24), (⟨"SneakPathsModel", "advances", "()V"⟩, 24), (⟨"SneakPathsModel", "letterAt", "(I)I"⟩, 24), (⟨"SneakPathsModel", "isWell", "()Z"⟩, 24)]
theorem lw_r2 : ∀ q ∈ lw_privs_2, lw_okq q := List.forall_mem_cons.mpr ⟨lw_p16, List.forall_mem_cons.mpr ⟨lw_p17, List.forall_mem_cons.mpr ⟨lw_p18, List.forall_mem_cons.mpr ⟨lw_p19, List.forall_mem_cons.mpr ⟨lw_p20, List.forall_mem_cons.mpr ⟨lw_p21, List.forall_mem_cons.mpr ⟨lw_p22, List.forall_mem_cons.mpr ⟨lw_p23, List.forall_mem_cons.mpr ⟨lw_p24, List.forall_mem_cons.mpr ⟨lw_p25, List.forall_mem_cons.mpr ⟨lw_p26, List.forall_mem_cons.mpr ⟨lw_p27, List.forall_mem_cons.mpr ⟨lw_p28, List.forall_mem_cons.mpr ⟨lw_p29, List.forall_mem_cons.mpr ⟨lw_p30, List.forall_mem_cons.mpr ⟨lw_p31, fun _ h => absurd h List.not_mem_nil⟩⟩⟩⟩⟩⟩⟩⟩⟩⟩⟩⟩⟩⟩⟩⟩
theorem lw_p32 : lw_okq (⟨"SneakPathsModel", "mayBegin", "(I)Z"⟩, 24) := ⟨⟨by decide +kernel, by decide +kernel⟩, List.mem_of_getElem? (i := 584) (by decide +kernel), List.mem_of_getElem? (i := 724) (by decide +kernel), List.mem_of_getElem? (i := 725) (by decide +kernel)⟩
theorem lw_p33 : lw_okq (⟨"SneakPathsModel", "takes", "(Z)I"⟩, 24) := ⟨⟨by decide +kernel, by decide +kernel⟩, List.mem_of_getElem? (i := 584) (by decide +kernel), List.mem_of_getElem? (i := 728) (by decide +kernel), List.mem_of_getElem? (i := 729) (by decide +kernel)⟩
theorem lw_p34 : lw_okq (⟨"SneakPathsModel", "readsItem", "(I)V"⟩, 24) := ⟨⟨by decide +kernel, by decide +kernel⟩, List.mem_of_getElem? (i := 584) (by decide +kernel), List.mem_of_getElem? (i := 732) (by decide +kernel), List.mem_of_getElem? (i := 733) (by decide +kernel)⟩
theorem lw_p35 : lw_okq (⟨"SneakPathsModel", "isNumber", "(II)Z"⟩, 24) := ⟨⟨by decide +kernel, by decide +kernel⟩, List.mem_of_getElem? (i := 584) (by decide +kernel), List.mem_of_getElem? (i := 736) (by decide +kernel), List.mem_of_getElem? (i := 737) (by decide +kernel)⟩
theorem lw_p36 : lw_okq (⟨"SneakPathsModel", "isFreeNode", "(I)Z"⟩, 24) := ⟨⟨by decide +kernel, by decide +kernel⟩, List.mem_of_getElem? (i := 584) (by decide +kernel), List.mem_of_getElem? (i := 740) (by decide +kernel), List.mem_of_getElem? (i := 741) (by decide +kernel)⟩
theorem lw_p37 : lw_okq (⟨"SneakPathsModel", "readsContact", "(I)V"⟩, 24) := ⟨⟨by decide +kernel, by decide +kernel⟩, List.mem_of_getElem? (i := 584) (by decide +kernel), List.mem_of_getElem? (i := 744) (by decide +kernel), List.mem_of_getElem? (i := 745) (by decide +kernel)⟩
theorem lw_p38 : lw_okq (⟨"SneakPathsModel", "isContact", "(I)Z"⟩, 24) := ⟨⟨by decide +kernel, by decide +kernel⟩, List.mem_of_getElem? (i := 584) (by decide +kernel), List.mem_of_getElem? (i := 752) (by decide +kernel), List.mem_of_getElem? (i := 753) (by decide +kernel)⟩
theorem lw_p39 : lw_okq (⟨"SneakPathsModel", "isLoad", "(I)Z"⟩, 24) := ⟨⟨by decide +kernel, by decide +kernel⟩, List.mem_of_getElem? (i := 584) (by decide +kernel), List.mem_of_getElem? (i := 760) (by decide +kernel), List.mem_of_getElem? (i := 761) (by decide +kernel)⟩
theorem lw_p40 : lw_okq (⟨"SneakPathsModel", "pathMany", "(I)I"⟩, 24) := ⟨⟨by decide +kernel, by decide +kernel⟩, List.mem_of_getElem? (i := 584) (by decide +kernel), List.mem_of_getElem? (i := 764) (by decide +kernel), List.mem_of_getElem? (i := 765) (by decide +kernel)⟩
theorem lw_p41 : lw_okq (⟨"SneakPathsModel", "beginsPath", "()V"⟩, 24) := ⟨⟨by decide +kernel, by decide +kernel⟩, List.mem_of_getElem? (i := 584) (by decide +kernel), List.mem_of_getElem? (i := 768) (by decide +kernel), List.mem_of_getElem? (i := 769) (by decide +kernel)⟩
theorem lw_p42 : lw_okq (⟨"SneakPathsModel", "nextPath", "(I)Z"⟩, 24) := ⟨⟨by decide +kernel, by decide +kernel⟩, List.mem_of_getElem? (i := 584) (by decide +kernel), List.mem_of_getElem? (i := 772) (by decide +kernel), List.mem_of_getElem? (i := 773) (by decide +kernel)⟩
theorem lw_p43 : lw_okq (⟨"SneakPathsModel", "toBy", "(II)I"⟩, 24) := ⟨⟨by decide +kernel, by decide +kernel⟩, List.mem_of_getElem? (i := 584) (by decide +kernel), List.mem_of_getElem? (i := 776) (by decide +kernel), List.mem_of_getElem? (i := 777) (by decide +kernel)⟩
theorem lw_p44 : lw_okq (⟨"SneakPathsModel", "isOnPath", "(I)Z"⟩, 24) := ⟨⟨by decide +kernel, by decide +kernel⟩, List.mem_of_getElem? (i := 584) (by decide +kernel), List.mem_of_getElem? (i := 780) (by decide +kernel), List.mem_of_getElem? (i := 781) (by decide +kernel)⟩
theorem lw_p45 : lw_okq (⟨"SneakPathsModel", "notes", "()V"⟩, 24) := ⟨⟨by decide +kernel, by decide +kernel⟩, List.mem_of_getElem? (i := 584) (by decide +kernel), List.mem_of_getElem? (i := 789) (by decide +kernel), List.mem_of_getElem? (i := 790) (by decide +kernel)⟩
theorem lw_p46 : lw_okq (⟨"SneakPathsModel", "shutIn", "()I"⟩, 24) := ⟨⟨by decide +kernel, by decide +kernel⟩, List.mem_of_getElem? (i := 584) (by decide +kernel), List.mem_of_getElem? (i := 809) (by decide +kernel), List.mem_of_getElem? (i := 810) (by decide +kernel)⟩
theorem lw_p47 : lw_okq (⟨"SneakPathsModel", "isEnough", "([I)Z"⟩, 24) := ⟨⟨by decide +kernel, by decide +kernel⟩, List.mem_of_getElem? (i := 584) (by decide +kernel), List.mem_of_getElem? (i := 831) (by decide +kernel), List.mem_of_getElem? (i := 832) (by decide +kernel)⟩
def lw_privs_3 : List (MethodName × Nat) := [(⟨"SneakPathsModel", "mayBegin", "(I)Z"⟩, 24), (⟨"SneakPathsModel", "takes", "(Z)I"⟩, 24), (⟨"SneakPathsModel", "readsItem", "(I)V"⟩, 24), (⟨"SneakPathsModel", "isNumber", "(II)Z"⟩, 24), (⟨"SneakPathsModel", "isFreeNode", "(I)Z"⟩, 24), (⟨"SneakPathsModel", "readsContact", "(I)V"⟩, 24), (⟨"SneakPathsModel", "isContact", "(I)Z"⟩, 24), (⟨"SneakPathsModel", "isLoad", "(I)Z"⟩, 24), (⟨"SneakPathsModel", "pathMany", "(I)I"⟩, 24), (⟨"SneakPathsModel", "beginsPath", "()V"⟩, 24), (⟨"SneakPathsModel", "nextPath", "(I)Z"⟩, 24), (⟨"SneakPathsModel", "toBy", "(II)I"⟩, 24), (⟨"SneakPathsModel", "isOnPath", "(I)Z"⟩, 24), (⟨"SneakPathsModel", "notes", "()V"⟩, 24), (⟨"SneakPathsModel", "shutIn", "()I"⟩, 24), (⟨"SneakPathsModel", "isEnough", "([I)Z"⟩, 24)]
theorem lw_r3 : ∀ q ∈ lw_privs_3, lw_okq q := List.forall_mem_cons.mpr ⟨lw_p32, List.forall_mem_cons.mpr ⟨lw_p33, List.forall_mem_cons.mpr ⟨lw_p34, List.forall_mem_cons.mpr ⟨lw_p35, List.forall_mem_cons.mpr ⟨lw_p36, List.forall_mem_cons.mpr ⟨lw_p37, List.forall_mem_cons.mpr ⟨lw_p38, List.forall_mem_cons.mpr ⟨lw_p39, List.forall_mem_cons.mpr ⟨lw_p40, List.forall_mem_cons.mpr ⟨lw_p41, List.forall_mem_cons.mpr ⟨lw_p42, List.forall_mem_cons.mpr ⟨lw_p43, List.forall_mem_cons.mpr ⟨lw_p44, List.forall_mem_cons.mpr ⟨lw_p45, List.forall_mem_cons.mpr ⟨lw_p46, List.forall_mem_cons.mpr ⟨lw_p47, fun _ h => absurd h List.not_mem_nil⟩⟩⟩⟩⟩⟩⟩⟩⟩⟩⟩⟩⟩⟩⟩⟩
def lw_privs : List (MethodName × Nat) := lw_privs_1 ++ (lw_privs_2 ++ (lw_privs_3))
def lw_tbl : List Cond := k2_sels lw_privs ++ tables_1
theorem lw_privs_ok : ∀ q ∈ lw_privs, lw_okq q := by
  show ∀ q ∈ lw_privs_1 ++ (lw_privs_2 ++ (lw_privs_3)), lw_okq q
  exact List.forall_mem_append.mpr ⟨lw_r1, List.forall_mem_append.mpr ⟨lw_r2, lw_r3⟩⟩
end
section
/-! ===== BEGIN words of one list among another's, by their places ===== -/
theorem goodIn_r {big : List Cond} (ws : List Cond) (ps : List Nat) (hp : ws = ps.filterMap (fun i => big[i]?)) (h : ws.all goodWord = true) : GoodIn big ws := by
  intro w hw
  have h1 := List.all_eq_true.mp h w hw
  rw [hp] at hw
  obtain ⟨i, -, hi⟩ := List.mem_filterMap.mp hw
  have hm : w ∈ big := by first | exact List.mem_of_getElem? hi | exact List.getElem?_mem hi
  exact ⟨hm, good_of_word h1⟩
theorem goodIn_app {big a b : List Cond} (ha : GoodIn big a) (hb : GoodIn big b) : GoodIn big (a ++ b) := fun w h => (List.mem_append.mp h).elim (ha w) (hb w)
theorem goodIn_ca {big a b : List Cond} {c : Cond} (ha : GoodIn big (c :: a)) (hb : GoodIn big b) : GoodIn big (c :: (a ++ b)) := fun w h => (List.mem_cons.mp h).elim (fun e => ha w (List.mem_cons.mpr (Or.inl e))) (fun h => (List.mem_append.mp h).elim (fun h => ha w (List.mem_cons.mpr (Or.inr h))) (hb w))
theorem goodIn_sub {big ws : List Cond} (hm : ∀ w ∈ ws, w ∈ big) (h : ws.all goodWord = true) : GoodIn big ws := fun w hw => ⟨hm w hw, good_of_word (List.all_eq_true.mp h w hw)⟩
/-! ===== END ===== -/

/-! ===== BEGIN printed: names, fields, word lists, decode rows ===== -/
def RX0 : String := "SneakPaths$History"
def TX0 : u_T := fun k => match k with
  | 0 => ("SneakPaths$History", "known", "I", false)
  | 1 => ("SneakPaths$History", "sort", "[I", true)
  | 2 => ("SneakPaths$History", "which", "[I", true)
  | 3 => ("SneakPaths$History", "was", "[I", true)
  | _ => ("SneakPaths$History", "wasBy", "[I", true)
def tyX0 : Nat → FieldType := fun k => match k with
  | 0 => .int
  | 1 => .array .int
  | 2 => .array .int
  | 3 => .array .int
  | _ => .array .int
abbrev wsX00 : List Cond := u_ws RX0 TX0 5
theorem nmX0 : ∀ a, a < 5 → ∀ b, b < 5 → a ≠ b → (TX0 a).2.1 ≠ (TX0 b).2.1 := by decide +kernel
theorem tyX0_ok : ∀ k, k < 5 → parseFieldDescriptor (TX0 k).2.2.1 = some (tyX0 k) := by decide +kernel
abbrev cX0_init : ByteArray := prog_2_method_1_code
def yX0_init : MethodName := ⟨RX0, "<init>", "()V"⟩
abbrev cX0_note : ByteArray := prog_2_method_2_code
def yX0_note : MethodName := ⟨RX0, "note", "(IIII)V"⟩
abbrev cX0_takeBack : ByteArray := prog_2_method_3_code
def yX0_takeBack : MethodName := ⟨RX0, "takeBack", "(LSneakPaths$Setting;)V"⟩
abbrev cX0_dropOldest : ByteArray := prog_2_method_4_code
def yX0_dropOldest : MethodName := ⟨RX0, "dropOldest", "()V"⟩
def RX1 : String := "SneakPaths$Net"
def TX1 : u_T := fun k => match k with
  | 0 => ("SneakPaths$Net", "nodes", "I", false)
  | 1 => ("SneakPaths$Net", "contacts", "I", false)
  | 2 => ("SneakPaths$Net", "loads", "I", false)
  | 3 => ("SneakPaths$Net", "kind", "[I", true)
  | 4 => ("SneakPaths$Net", "first", "[I", true)
  | 5 => ("SneakPaths$Net", "second", "[I", true)
  | 6 => ("SneakPaths$Net", "by", "[I", true)
  | _ => ("SneakPaths$Net", "loadNode", "[I", true)
def tyX1 : Nat → FieldType := fun k => match k with
  | 0 => .int
  | 1 => .int
  | 2 => .int
  | 3 => .array .int
  | 4 => .array .int
  | 5 => .array .int
  | 6 => .array .int
  | _ => .array .int
abbrev wsX10 : List Cond := u_ws RX1 TX1 8
theorem nmX1 : ∀ a, a < 8 → ∀ b, b < 8 → a ≠ b → (TX1 a).2.1 ≠ (TX1 b).2.1 := by decide +kernel
theorem tyX1_ok : ∀ k, k < 8 → parseFieldDescriptor (TX1 k).2.2.1 = some (tyX1 k) := by decide +kernel
abbrev cX1_init : ByteArray := prog_3_method_1_code
def yX1_init : MethodName := ⟨RX1, "<init>", "()V"⟩
abbrev cX1_reset : ByteArray := prog_3_method_2_code
def yX1_reset : MethodName := ⟨RX1, "reset", "()V"⟩
abbrev cX1_addContact : ByteArray := prog_3_method_3_code
def yX1_addContact : MethodName := ⟨RX1, "addContact", "(IIII)V"⟩
abbrev cX1_addLoad : ByteArray := prog_3_method_4_code
def yX1_addLoad : MethodName := ⟨RX1, "addLoad", "(I)V"⟩
abbrev cX1_hasLoadAt : ByteArray := prog_3_method_5_code
def yX1_hasLoadAt : MethodName := ⟨RX1, "hasLoadAt", "(I)Z"⟩
abbrev cX1_takeFrom : ByteArray := prog_3_method_6_code
def yX1_takeFrom : MethodName := ⟨RX1, "takeFrom", "(LSneakPaths$Net;)V"⟩
def RX2 : String := "SneakPaths$Reader"
def TX2 : u_T := fun k => match k with
  | 0 => ("SneakPaths$Reader", "draft", "LSneakPaths$Net;", true)
  | 1 => ("SneakPaths$Reader", "length", "I", false)
  | 2 => ("SneakPaths$Reader", "letters", "[I", true)
  | 3 => ("SneakPaths$Reader", "at", "I", false)
  | 4 => ("SneakPaths$Reader", "token", "I", false)
  | _ => ("SneakPaths$Reader", "place", "I", false)
def tyX2 : Nat → FieldType := fun k => match k with
  | 0 => .object "SneakPaths$Net"
  | 1 => .int
  | 2 => .array .int
  | 3 => .int
  | 4 => .int
  | _ => .int
abbrev wsX20 : List Cond := u_ws RX2 TX2 6
theorem nmX2 : ∀ a, a < 6 → ∀ b, b < 6 → a ≠ b → (TX2 a).2.1 ≠ (TX2 b).2.1 := by decide +kernel
theorem tyX2_ok : ∀ k, k < 6 → parseFieldDescriptor (TX2 k).2.2.1 = some (tyX2 k) := by decide +kernel
abbrev cX2_init : ByteArray := prog_4_method_1_code
def yX2_init : MethodName := ⟨RX2, "<init>", "()V"⟩
abbrev cX2_append : ByteArray := prog_4_method_2_code
def yX2_append : MethodName := ⟨RX2, "append", "(I)Z"⟩
abbrev cX2_read : ByteArray := prog_4_method_3_code
def yX2_read : MethodName := ⟨RX2, "read", "()I"⟩
abbrev cX2_readItem : ByteArray := prog_4_method_4_code
def yX2_readItem : MethodName := ⟨RX2, "readItem", "(Z)Z"⟩
abbrev cX2_readNodes : ByteArray := prog_4_method_5_code
def yX2_readNodes : MethodName := ⟨RX2, "readNodes", "()Z"⟩
abbrev cX2_readContact : ByteArray := prog_4_method_6_code
def yX2_readContact : MethodName := ⟨RX2, "readContact", "(I)Z"⟩
abbrev cX2_readLoad : ByteArray := prog_4_method_7_code
def yX2_readLoad : MethodName := ⟨RX2, "readLoad", "()Z"⟩
abbrev cX2_readNumber : ByteArray := prog_4_method_8_code
def yX2_readNumber : MethodName := ⟨RX2, "readNumber", "(II)I"⟩
abbrev cX2_readSemicolon : ByteArray := prog_4_method_9_code
def yX2_readSemicolon : MethodName := ⟨RX2, "readSemicolon", "()Z"⟩
abbrev cX2_nextToken : ByteArray := prog_4_method_10_code
def yX2_nextToken : MethodName := ⟨RX2, "nextToken", "()V"⟩
abbrev cX2_letterAt : ByteArray := prog_4_method_11_code
def yX2_letterAt : MethodName := ⟨RX2, "letterAt", "(I)I"⟩
abbrev cX2_isDigit : ByteArray := prog_4_method_12_code
def yX2_isDigit : MethodName := ⟨RX2, "isDigit", "(I)Z"⟩
def RX3 : String := "SneakPaths$Seen"
def TX3 : u_T := fun k => match k with
  | 0 => ("SneakPaths$Seen", "size", "I", false)
  | 1 => ("SneakPaths$Seen", "which", "[I", true)
  | 2 => ("SneakPaths$Seen", "state", "[I", true)
  | _ => ("SneakPaths$Seen", "fed", "[I", true)
def tyX3 : Nat → FieldType := fun k => match k with
  | 0 => .int
  | 1 => .array .int
  | 2 => .array .int
  | _ => .array .int
abbrev wsX30 : List Cond := u_ws RX3 TX3 4
theorem nmX3 : ∀ a, a < 4 → ∀ b, b < 4 → a ≠ b → (TX3 a).2.1 ≠ (TX3 b).2.1 := by decide +kernel
theorem tyX3_ok : ∀ k, k < 4 → parseFieldDescriptor (TX3 k).2.2.1 = some (tyX3 k) := by decide +kernel
abbrev cX3_init : ByteArray := prog_5_method_1_code
def yX3_init : MethodName := ⟨RX3, "<init>", "()V"⟩
abbrev cX3_append : ByteArray := prog_5_method_2_code
def yX3_append : MethodName := ⟨RX3, "append", "(III)Z"⟩
abbrev cX3_agrees : ByteArray := prog_5_method_3_code
def yX3_agrees : MethodName := ⟨RX3, "agrees", "(LSneakPaths$Ways;)Z"⟩
def RX4 : String := "SneakPaths$Setting"
def TX4 : u_T := fun k => match k with
  | 0 => ("SneakPaths$Setting", "wished", "[I", true)
  | 1 => ("SneakPaths$Setting", "cure", "[I", true)
  | 2 => ("SneakPaths$Setting", "cureBy", "[I", true)
  | _ => ("SneakPaths$Setting", "stick", "[I", true)
def tyX4 : Nat → FieldType := fun k => match k with
  | 0 => .array .int
  | 1 => .array .int
  | 2 => .array .int
  | _ => .array .int
abbrev wsX40 : List Cond := u_ws RX4 TX4 4
theorem nmX4 : ∀ a, a < 4 → ∀ b, b < 4 → a ≠ b → (TX4 a).2.1 ≠ (TX4 b).2.1 := by decide +kernel
theorem tyX4_ok : ∀ k, k < 4 → parseFieldDescriptor (TX4 k).2.2.1 = some (tyX4 k) := by decide +kernel
abbrev cX4_init : ByteArray := prog_6_method_1_code
def yX4_init : MethodName := ⟨RX4, "<init>", "()V"⟩
abbrev cX4_reset : ByteArray := prog_6_method_2_code
def yX4_reset : MethodName := ⟨RX4, "reset", "()V"⟩
abbrev cX4_takeFrom : ByteArray := prog_6_method_3_code
def yX4_takeFrom : MethodName := ⟨RX4, "takeFrom", "(LSneakPaths$Setting;)V"⟩
def RX5 : String := "SneakPaths$Walk"
def TX5 : u_T := fun k => match k with
  | 0 => ("SneakPaths$Walk", "found", "I", false)
  | 1 => ("SneakPaths$Walk", "bits", "I", false)
  | 2 => ("SneakPaths$Walk", "length", "I", false)
  | 3 => ("SneakPaths$Walk", "shut", "I", false)
  | 4 => ("SneakPaths$Walk", "fewest", "I", false)
  | 5 => ("SneakPaths$Walk", "shortestTrail", "[I", true)
  | 6 => ("SneakPaths$Walk", "plan", "LSneakPaths$Net;", true)
  | 7 => ("SneakPaths$Walk", "ways", "LSneakPaths$Ways;", true)
  | 8 => ("SneakPaths$Walk", "trail", "[I", true)
  | 9 => ("SneakPaths$Walk", "goal", "I", false)
  | 10 => ("SneakPaths$Walk", "wantedPath", "I", false)
  | _ => ("SneakPaths$Walk", "wantedState", "I", false)
def tyX5 : Nat → FieldType := fun k => match k with
  | 0 => .int
  | 1 => .int
  | 2 => .int
  | 3 => .int
  | 4 => .int
  | 5 => .array .int
  | 6 => .object "SneakPaths$Net"
  | 7 => .object "SneakPaths$Ways"
  | 8 => .array .int
  | 9 => .int
  | 10 => .int
  | _ => .int
abbrev wsX50 : List Cond := u_ws RX5 TX5 12
theorem nmX5 : ∀ a, a < 12 → ∀ b, b < 12 → a ≠ b → (TX5 a).2.1 ≠ (TX5 b).2.1 := by decide +kernel
theorem tyX5_ok : ∀ k, k < 12 → parseFieldDescriptor (TX5 k).2.2.1 = some (tyX5 k) := by decide +kernel
abbrev cX5_init : ByteArray := prog_7_method_1_code
def yX5_init : MethodName := ⟨RX5, "<init>", "(LSneakPaths$Net;LSneakPaths$Ways;)V"⟩
abbrev cX5_run : ByteArray := prog_7_method_2_code
def yX5_run : MethodName := ⟨RX5, "run", "(III)V"⟩
abbrev cX5_goOn : ByteArray := prog_7_method_3_code
def yX5_goOn : MethodName := ⟨RX5, "goOn", "(IIIII)V"⟩
abbrev cX5_arrive : ByteArray := prog_7_method_4_code
def yX5_arrive : MethodName := ⟨RX5, "arrive", "(III)V"⟩
def RX6 : String := "SneakPaths$Ways"
def TX6 : u_T := fun k => match k with
  | 0 => ("SneakPaths$Ways", "shut", "[I", true)
  | 1 => ("SneakPaths$Ways", "plan", "LSneakPaths$Net;", true)
  | 2 => ("SneakPaths$Ways", "now", "LSneakPaths$Setting;", true)
  | 3 => ("SneakPaths$Ways", "forth", "[Z", true)
  | 4 => ("SneakPaths$Ways", "back", "[Z", true)
  | 5 => ("SneakPaths$Ways", "reached", "[I", true)
  | _ => ("SneakPaths$Ways", "grew", "Z", false)
def tyX6 : Nat → FieldType := fun k => match k with
  | 0 => .array .int
  | 1 => .object "SneakPaths$Net"
  | 2 => .object "SneakPaths$Setting"
  | 3 => .array .boolean
  | 4 => .array .boolean
  | 5 => .array .int
  | _ => .boolean
abbrev wsX60 : List Cond := u_ws RX6 TX6 7
theorem nmX6 : ∀ a, a < 7 → ∀ b, b < 7 → a ≠ b → (TX6 a).2.1 ≠ (TX6 b).2.1 := by decide +kernel
theorem tyX6_ok : ∀ k, k < 7 → parseFieldDescriptor (TX6 k).2.2.1 = some (tyX6 k) := by decide +kernel
abbrev cX6_init : ByteArray := prog_8_method_1_code
def yX6_init : MethodName := ⟨RX6, "<init>", "(LSneakPaths$Net;LSneakPaths$Setting;)V"⟩
abbrev cX6_layAll : ByteArray := prog_8_method_2_code
def yX6_layAll : MethodName := ⟨RX6, "layAll", "()V"⟩
abbrev cX6_layOne : ByteArray := prog_8_method_3_code
def yX6_layOne : MethodName := ⟨RX6, "layOne", "(IIII)V"⟩
abbrev cX6_shutBy : ByteArray := prog_8_method_4_code
def yX6_shutBy : MethodName := ⟨RX6, "shutBy", "(II)I"⟩
abbrev cX6_spread : ByteArray := prog_8_method_5_code
def yX6_spread : MethodName := ⟨RX6, "spread", "(I)V"⟩
abbrev cX6_spreadOver : ByteArray := prog_8_method_6_code
def yX6_spreadOver : MethodName := ⟨RX6, "spreadOver", "(I)V"⟩
abbrev cX6_flow : ByteArray := prog_8_method_7_code
def yX6_flow : MethodName := ⟨RX6, "flow", "(III)V"⟩
abbrev cX6_fed : ByteArray := prog_8_method_8_code
def yX6_fed : MethodName := ⟨RX6, "fed", "(I)I"⟩
abbrev cX6_feedsWithout : ByteArray := prog_8_method_9_code
def yX6_feedsWithout : MethodName := ⟨RX6, "feedsWithout", "(III)Z"⟩
abbrev cX6_nodeBehind : ByteArray := prog_8_method_10_code
def yX6_nodeBehind : MethodName := ⟨RX6, "nodeBehind", "(II)I"⟩
def RX7 : String := "SneakPaths"
def TX7 : u_T := fun k => match k with
  | 0 => ("SneakPaths", "reader", "LSneakPaths$Reader;", true)
  | 1 => ("SneakPaths", "plan", "LSneakPaths$Net;", true)
  | 2 => ("SneakPaths", "now", "LSneakPaths$Setting;", true)
  | 3 => ("SneakPaths", "history", "LSneakPaths$History;", true)
  | 4 => ("SneakPaths", "seen", "LSneakPaths$Seen;", true)
  | 5 => ("SneakPaths", "ways", "LSneakPaths$Ways;", true)
  | 6 => ("SneakPaths", "walk", "LSneakPaths$Walk;", true)
  | 7 => ("SneakPaths", "images", "[LSneakPaths$Setting;", true)
  | 8 => ("SneakPaths", "kept", "[Z", true)
  | _ => ("SneakPaths", "missingBefore", "[I", true)
def tyX7 : Nat → FieldType := fun k => match k with
  | 0 => .object "SneakPaths$Reader"
  | 1 => .object "SneakPaths$Net"
  | 2 => .object "SneakPaths$Setting"
  | 3 => .object "SneakPaths$History"
  | 4 => .object "SneakPaths$Seen"
  | 5 => .object "SneakPaths$Ways"
  | 6 => .object "SneakPaths$Walk"
  | 7 => .array (.object "SneakPaths$Setting")
  | 8 => .array .boolean
  | _ => .array .int
abbrev wsX70 : List Cond := u_ws RX7 TX7 10
theorem nmX7 : ∀ a, a < 10 → ∀ b, b < 10 → a ≠ b → (TX7 a).2.1 ≠ (TX7 b).2.1 := by decide +kernel
theorem tyX7_ok : ∀ k, k < 10 → parseFieldDescriptor (TX7 k).2.2.1 = some (tyX7 k) := by decide +kernel
abbrev cX7_init : ByteArray := prog_1_method_1_code
def yX7_init : MethodName := ⟨RX7, "<init>", "()V"⟩
abbrev cX7_type : ByteArray := prog_1_method_2_code
def yX7_type : MethodName := ⟨RX7, "type", "(I)I"⟩
abbrev cX7_clear : ByteArray := prog_1_method_3_code
def yX7_clear : MethodName := ⟨RX7, "clear", "()I"⟩
abbrev cX7_net : ByteArray := prog_1_method_4_code
def yX7_net : MethodName := ⟨RX7, "net", "()I"⟩
abbrev cX7_contact : ByteArray := prog_1_method_5_code
def yX7_contact : MethodName := ⟨RX7, "contact", "(II)I"⟩
abbrev cX7_load : ByteArray := prog_1_method_6_code
def yX7_load : MethodName := ⟨RX7, "load", "(II)I"⟩
abbrev cX7_wishes : ByteArray := prog_1_method_7_code
def yX7_wishes : MethodName := ⟨RX7, "wishes", "(II)I"⟩
abbrev cX7_cures : ByteArray := prog_1_method_8_code
def yX7_cures : MethodName := ⟨RX7, "cures", "(III)I"⟩
abbrev cX7_sticks : ByteArray := prog_1_method_9_code
def yX7_sticks : MethodName := ⟨RX7, "sticks", "(II)I"⟩
abbrev cX7_undo : ByteArray := prog_1_method_10_code
def yX7_undo : MethodName := ⟨RX7, "undo", "()I"⟩
abbrev cX7_path : ByteArray := prog_1_method_11_code
def yX7_path : MethodName := ⟨RX7, "path", "(III)I"⟩
abbrev cX7_shortest : ByteArray := prog_1_method_12_code
def yX7_shortest : MethodName := ⟨RX7, "shortest", "(III)I"⟩
abbrev cX7_parting : ByteArray := prog_1_method_13_code
def yX7_parting : MethodName := ⟨RX7, "parting", "(II)I"⟩
abbrev cX7_enough : ByteArray := prog_1_method_14_code
def yX7_enough : MethodName := ⟨RX7, "enough", "(I)I"⟩
abbrev cX7_flash : ByteArray := prog_1_method_15_code
def yX7_flash : MethodName := ⟨RX7, "flash", "(III)I"⟩
abbrev cX7_odds : ByteArray := prog_1_method_16_code
def yX7_odds : MethodName := ⟨RX7, "odds", "(IIII)I"⟩
abbrev cX7_sees : ByteArray := prog_1_method_17_code
def yX7_sees : MethodName := ⟨RX7, "sees", "(III)I"⟩
abbrev cX7_forget : ByteArray := prog_1_method_18_code
def yX7_forget : MethodName := ⟨RX7, "forget", "()I"⟩
abbrev cX7_unseen : ByteArray := prog_1_method_19_code
def yX7_unseen : MethodName := ⟨RX7, "unseen", "(I)I"⟩
abbrev cX7_keep : ByteArray := prog_1_method_20_code
def yX7_keep : MethodName := ⟨RX7, "keep", "(I)I"⟩
abbrev cX7_back : ByteArray := prog_1_method_21_code
def yX7_back : MethodName := ⟨RX7, "back", "(I)I"⟩
abbrev cX7_count : ByteArray := prog_1_method_22_code
def yX7_count : MethodName := ⟨RX7, "count", "(I)I"⟩
abbrev cX7_isContact : ByteArray := prog_1_method_23_code
def yX7_isContact : MethodName := ⟨RX7, "isContact", "(I)Z"⟩
abbrev cX7_isLoad : ByteArray := prog_1_method_24_code
def yX7_isLoad : MethodName := ⟨RX7, "isLoad", "(I)Z"⟩
abbrev cX7_isState : ByteArray := prog_1_method_25_code
def yX7_isState : MethodName := ⟨RX7, "isState", "(I)Z"⟩
abbrev cX7_isImage : ByteArray := prog_1_method_26_code
def yX7_isImage : MethodName := ⟨RX7, "isImage", "(I)Z"⟩
abbrev cX7_hasBit : ByteArray := prog_1_method_27_code
def yX7_hasBit : MethodName := ⟨RX7, "hasBit", "(II)Z"⟩
abbrev cX7_choicesOfSwitch : ByteArray := prog_1_method_28_code
def yX7_choicesOfSwitch : MethodName := ⟨RX7, "choicesOfSwitch", "(I)I"⟩
abbrev cX7_wishWhatIsFed : ByteArray := prog_1_method_29_code
def yX7_wishWhatIsFed : MethodName := ⟨RX7, "wishWhatIsFed", "()V"⟩
abbrev cX7_fedNow : ByteArray := prog_1_method_30_code
def yX7_fedNow : MethodName := ⟨RX7, "fedNow", "(I)I"⟩
abbrev cX7_howManyPaths : ByteArray := prog_1_method_31_code
def yX7_howManyPaths : MethodName := ⟨RX7, "howManyPaths", "(I)I"⟩
abbrev cX7_loadsThatSneak : ByteArray := prog_1_method_32_code
def yX7_loadsThatSneak : MethodName := ⟨RX7, "loadsThatSneak", "()I"⟩
abbrev cX7_loadsThatMiss : ByteArray := prog_1_method_33_code
def yX7_loadsThatMiss : MethodName := ⟨RX7, "loadsThatMiss", "()I"⟩
abbrev cX7_noteMissing : ByteArray := prog_1_method_34_code
def yX7_noteMissing : MethodName := ⟨RX7, "noteMissing", "()V"⟩
abbrev cX7_isEnough : ByteArray := prog_1_method_35_code
def yX7_isEnough : MethodName := ⟨RX7, "isEnough", "(III)Z"⟩
abbrev cX7_weight : ByteArray := prog_1_method_36_code
def yX7_weight : MethodName := ⟨RX7, "weight", "(II)I"⟩
abbrev cX7_commonDivisor : ByteArray := prog_1_method_37_code
def yX7_commonDivisor : MethodName := ⟨RX7, "commonDivisor", "(II)I"⟩
def RX8 : String := "SneakPathsModel"
def TX8 : u_T := fun k => match k with
  | 0 => ("SneakPathsModel", "thrown", "I", false)
  | 1 => ("SneakPathsModel", "text", "[I", true)
  | 2 => ("SneakPathsModel", "typed", "I", false)
  | 3 => ("SneakPathsModel", "spot", "I", false)
  | 4 => ("SneakPathsModel", "token", "I", false)
  | 5 => ("SneakPathsModel", "place", "I", false)
  | 6 => ("SneakPathsModel", "value", "I", false)
  | 7 => ("SneakPathsModel", "fault", "I", false)
  | 8 => ("SneakPathsModel", "told", "[I", true)
  | 9 => ("SneakPathsModel", "draft", "[I", true)
  | 10 => ("SneakPathsModel", "s", "[I", true)
  | 11 => ("SneakPathsModel", "undos", "[I", true)
  | 12 => ("SneakPathsModel", "undoMany", "I", false)
  | 13 => ("SneakPathsModel", "kept", "[I", true)
  | 14 => ("SneakPathsModel", "isKept", "[Z", true)
  | 15 => ("SneakPathsModel", "seenLoad", "[I", true)
  | 16 => ("SneakPathsModel", "seenState", "[I", true)
  | 17 => ("SneakPathsModel", "seenFed", "[I", true)
  | 18 => ("SneakPathsModel", "seenMany", "I", false)
  | 19 => ("SneakPathsModel", "step", "[I", true)
  | 20 => ("SneakPathsModel", "where", "[I", true)
  | 21 => ("SneakPathsModel", "steps", "I", false)
  | 22 => ("SneakPathsModel", "best", "[I", true)
  | _ => ("SneakPathsModel", "missing", "[I", true)
def tyX8 : Nat → FieldType := fun k => match k with
  | 0 => .int
  | 1 => .array .int
  | 2 => .int
  | 3 => .int
  | 4 => .int
  | 5 => .int
  | 6 => .int
  | 7 => .int
  | 8 => .array .int
  | 9 => .array .int
  | 10 => .array .int
  | 11 => .array .int
  | 12 => .int
  | 13 => .array .int
  | 14 => .array .boolean
  | 15 => .array .int
  | 16 => .array .int
  | 17 => .array .int
  | 18 => .int
  | 19 => .array .int
  | 20 => .array .int
  | 21 => .int
  | 22 => .array .int
  | _ => .array .int
abbrev wsX80 : List Cond := u_ws RX8 TX8 24
theorem nmX8 : ∀ a, a < 24 → ∀ b, b < 24 → a ≠ b → (TX8 a).2.1 ≠ (TX8 b).2.1 := by decide +kernel
theorem tyX8_ok : ∀ k, k < 24 → parseFieldDescriptor (TX8 k).2.2.1 = some (tyX8 k) := by decide +kernel
abbrev cX8_init : ByteArray := prog_10_method_1_code
def yX8_init : MethodName := ⟨RX8, "<init>", "()V"⟩
abbrev cX8_in : ByteArray := prog_10_method_3_code
def yX8_in : MethodName := ⟨RX8, "in", "(III)Z"⟩
abbrev cX8_has : ByteArray := prog_10_method_4_code
def yX8_has : MethodName := ⟨RX8, "has", "(II)Z"⟩
abbrev cX8_ones : ByteArray := prog_10_method_5_code
def yX8_ones : MethodName := ⟨RX8, "ones", "(I)I"⟩
abbrev cX8_type : ByteArray := prog_10_method_6_code
def yX8_type : MethodName := ⟨RX8, "type", "(I)I"⟩
abbrev cX8_clear : ByteArray := prog_10_method_7_code
def yX8_clear : MethodName := ⟨RX8, "clear", "()I"⟩
abbrev cX8_letterAt : ByteArray := prog_10_method_8_code
def yX8_letterAt : MethodName := ⟨RX8, "letterAt", "(I)I"⟩
abbrev cX8_isLetter : ByteArray := prog_10_method_9_code
def yX8_isLetter : MethodName := ⟨RX8, "isLetter", "(I)Z"⟩
abbrev cX8_advances : ByteArray := prog_10_method_10_code
def yX8_advances : MethodName := ⟨RX8, "advances", "()V"⟩
abbrev cX8_isWell : ByteArray := prog_10_method_11_code
def yX8_isWell : MethodName := ⟨RX8, "isWell", "()Z"⟩
abbrev cX8_takes : ByteArray := prog_10_method_12_code
def yX8_takes : MethodName := ⟨RX8, "takes", "(Z)I"⟩
abbrev cX8_isNumber : ByteArray := prog_10_method_13_code
def yX8_isNumber : MethodName := ⟨RX8, "isNumber", "(II)Z"⟩
abbrev cX8_begins : ByteArray := prog_10_method_14_code
def yX8_begins : MethodName := ⟨RX8, "begins", "()V"⟩
abbrev cX8_isFreeNode : ByteArray := prog_10_method_15_code
def yX8_isFreeNode : MethodName := ⟨RX8, "isFreeNode", "(I)Z"⟩
abbrev cX8_readsContact : ByteArray := prog_10_method_16_code
def yX8_readsContact : MethodName := ⟨RX8, "readsContact", "(I)V"⟩
abbrev cX8_readsItem : ByteArray := prog_10_method_17_code
def yX8_readsItem : MethodName := ⟨RX8, "readsItem", "(I)V"⟩
abbrev cX8_mayBegin : ByteArray := prog_10_method_18_code
def yX8_mayBegin : MethodName := ⟨RX8, "mayBegin", "(I)Z"⟩
abbrev cX8_net : ByteArray := prog_10_method_19_code
def yX8_net : MethodName := ⟨RX8, "net", "()I"⟩
abbrev cX8_settles : ByteArray := prog_10_method_20_code
def yX8_settles : MethodName := ⟨RX8, "settles", "()V"⟩
abbrev cX8_isContact : ByteArray := prog_10_method_21_code
def yX8_isContact : MethodName := ⟨RX8, "isContact", "(I)Z"⟩
abbrev cX8_isLoad : ByteArray := prog_10_method_22_code
def yX8_isLoad : MethodName := ⟨RX8, "isLoad", "(I)Z"⟩
abbrev cX8_isState : ByteArray := prog_10_method_23_code
def yX8_isState : MethodName := ⟨RX8, "isState", "(I)Z"⟩
abbrev cX8_isShut : ByteArray := prog_10_method_24_code
def yX8_isShut : MethodName := ⟨RX8, "isShut", "(II)Z"⟩
abbrev cX8_isWay : ByteArray := prog_10_method_25_code
def yX8_isWay : MethodName := ⟨RX8, "isWay", "(IZ)Z"⟩
abbrev cX8_live : ByteArray := prog_10_method_26_code
def yX8_live : MethodName := ⟨RX8, "live", "(II)I"⟩
abbrev cX8_isFed : ByteArray := prog_10_method_27_code
def yX8_isFed : MethodName := ⟨RX8, "isFed", "(III)Z"⟩
abbrev cX8_fedIn : ByteArray := prog_10_method_28_code
def yX8_fedIn : MethodName := ⟨RX8, "fedIn", "(I)I"⟩
abbrev cX8_contact : ByteArray := prog_10_method_29_code
def yX8_contact : MethodName := ⟨RX8, "contact", "(II)I"⟩
abbrev cX8_load : ByteArray := prog_10_method_30_code
def yX8_load : MethodName := ⟨RX8, "load", "(II)I"⟩
abbrev cX8_notes : ByteArray := prog_10_method_31_code
def yX8_notes : MethodName := ⟨RX8, "notes", "()V"⟩
abbrev cX8_wishes : ByteArray := prog_10_method_32_code
def yX8_wishes : MethodName := ⟨RX8, "wishes", "(II)I"⟩
abbrev cX8_cures : ByteArray := prog_10_method_33_code
def yX8_cures : MethodName := ⟨RX8, "cures", "(III)I"⟩
abbrev cX8_sticks : ByteArray := prog_10_method_34_code
def yX8_sticks : MethodName := ⟨RX8, "sticks", "(II)I"⟩
abbrev cX8_undo : ByteArray := prog_10_method_35_code
def yX8_undo : MethodName := ⟨RX8, "undo", "()I"⟩
abbrev cX8_toBy : ByteArray := prog_10_method_36_code
def yX8_toBy : MethodName := ⟨RX8, "toBy", "(II)I"⟩
abbrev cX8_isOnPath : ByteArray := prog_10_method_37_code
def yX8_isOnPath : MethodName := ⟨RX8, "isOnPath", "(I)Z"⟩
abbrev cX8_beginsPath : ByteArray := prog_10_method_38_code
def yX8_beginsPath : MethodName := ⟨RX8, "beginsPath", "()V"⟩
abbrev cX8_nextPath : ByteArray := prog_10_method_39_code
def yX8_nextPath : MethodName := ⟨RX8, "nextPath", "(I)Z"⟩
abbrev cX8_pathMany : ByteArray := prog_10_method_40_code
def yX8_pathMany : MethodName := ⟨RX8, "pathMany", "(I)I"⟩
abbrev cX8_shutIn : ByteArray := prog_10_method_41_code
def yX8_shutIn : MethodName := ⟨RX8, "shutIn", "()I"⟩
abbrev cX8_path : ByteArray := prog_10_method_42_code
def yX8_path : MethodName := ⟨RX8, "path", "(III)I"⟩
abbrev cX8_shortest : ByteArray := prog_10_method_43_code
def yX8_shortest : MethodName := ⟨RX8, "shortest", "(III)I"⟩
abbrev cX8_parting : ByteArray := prog_10_method_44_code
def yX8_parting : MethodName := ⟨RX8, "parting", "(II)I"⟩
abbrev cX8_isEnough : ByteArray := prog_10_method_45_code
def yX8_isEnough : MethodName := ⟨RX8, "isEnough", "([I)Z"⟩
abbrev cX8_enough : ByteArray := prog_10_method_46_code
def yX8_enough : MethodName := ⟨RX8, "enough", "(I)I"⟩
abbrev cX8_flash : ByteArray := prog_10_method_47_code
def yX8_flash : MethodName := ⟨RX8, "flash", "(III)I"⟩
abbrev cX8_gcd : ByteArray := prog_10_method_48_code
def yX8_gcd : MethodName := ⟨RX8, "gcd", "(JJ)J"⟩
abbrev cX8_odds : ByteArray := prog_10_method_49_code
def yX8_odds : MethodName := ⟨RX8, "odds", "(IIII)I"⟩
abbrev cX8_sees : ByteArray := prog_10_method_50_code
def yX8_sees : MethodName := ⟨RX8, "sees", "(III)I"⟩
abbrev cX8_forget : ByteArray := prog_10_method_51_code
def yX8_forget : MethodName := ⟨RX8, "forget", "()I"⟩
abbrev cX8_unseen : ByteArray := prog_10_method_52_code
def yX8_unseen : MethodName := ⟨RX8, "unseen", "(I)I"⟩
abbrev cX8_keep : ByteArray := prog_10_method_53_code
def yX8_keep : MethodName := ⟨RX8, "keep", "(I)I"⟩
abbrev cX8_back : ByteArray := prog_10_method_54_code
def yX8_back : MethodName := ⟨RX8, "back", "(I)I"⟩
abbrev cX8_count : ByteArray := prog_10_method_55_code
def yX8_count : MethodName := ⟨RX8, "count", "(I)I"⟩
def RJ6 : String := "java/lang/Integer"
def TJ6 : u_T := fun k => match k with
  | _ => ("", "", "", false)
def tyJ6 : Nat → FieldType := fun k => match k with
  | _ => .int
abbrev wsJ60 : List Cond := u_ws RJ6 TJ6 0
theorem nmJ6 : ∀ a, a < 0 → ∀ b, b < 0 → a ≠ b → (TJ6 a).2.1 ≠ (TJ6 b).2.1 := by decide +kernel
theorem tyJ6_ok : ∀ k, k < 0 → parseFieldDescriptor (TJ6 k).2.2.1 = some (tyJ6 k) := by decide +kernel
abbrev cJ6_bitCount_0f7a4 : ByteArray := prog_11_method_49_code
def yJ6_bitCount_0f7a4 : MethodName := ⟨RJ6, "bitCount", "(I)I"⟩
def RJ10 : String := "java/lang/System"
def TJ10 : u_T := fun k => match k with
  | _ => ("", "", "", false)
def tyJ10 : Nat → FieldType := fun k => match k with
  | _ => .int
abbrev wsJ100 : List Cond := u_ws RJ10 TJ10 0
theorem nmJ10 : ∀ a, a < 0 → ∀ b, b < 0 → a ≠ b → (TJ10 a).2.1 ≠ (TJ10 b).2.1 := by decide +kernel
theorem tyJ10_ok : ∀ k, k < 0 → parseFieldDescriptor (TJ10 k).2.2.1 = some (tyJ10 k) := by decide +kernel
def RL : String := "SneakPathsLaw"
abbrev cL_law : ByteArray := code
def yL_law : MethodName := ⟨RL, "law", "([I)Z"⟩
abbrev vwCl : List vw_C := [(RX0, TX0, 5), (RX1, TX1, 8), (RX2, TX2, 6), (RX3, TX3, 4), (RX4, TX4, 4), (RX5, TX5, 12), (RX6, TX6, 7), (RX7, TX7, 10), (RX8, TX8, 24)]
end
section
/-- the tables' words that stay good over calls -/
def lw_T : List Cond := lw_tbl.filter goodWord
theorem T_w {x : Cond} (i : Nat) (h : lw_tbl[i]? = some x) (g : goodWord x = true) : x ∈ lw_T := List.mem_filter.mpr ⟨List.mem_of_getElem? h, g⟩
theorem T_gw {x : Cond} (h : x ∈ lw_T) : goodWord x = true := (List.mem_filter.mp h).2
theorem T_tb {x : Cond} (h : x ∈ lw_T) : x ∈ lw_tbl := (List.mem_filter.mp h).1
theorem T_pl (ws : List Cond) (ps : List Nat) (hp : ws = ps.filterMap (fun i => lw_tbl[i]?)) (g : ws.all goodWord = true) : ∀ w ∈ ws, w ∈ lw_T := by
  intro w hw
  refine List.mem_filter.mpr ⟨?_, List.all_eq_true.mp g w hw⟩
  rw [hp] at hw
  obtain ⟨i, -, hi⟩ := List.mem_filterMap.mp hw
  exact List.mem_of_getElem? hi
def notMH (y : MethodName) (n : Nat) : Prop := y.cls ≠ "java/lang/invoke/MethodHandle" ∧ y.cls ≠ "java/lang/invoke/VarHandle" ∧ (parseMethodDescriptor y.desc).map (fun d => d.parameters.length) = some n
/-- a method's rows of the tables: one that is called on an object, a static one, a constructor -/
def Yv (y : MethodName) (cc : ByteArray) (maxL : Nat) (ret : Option FieldType) (n : Nat) : Prop := Cond.code y cc maxL ret ∈ lw_T ∧ Cond.instanceMethod y ∈ lw_T ∧ Cond.selects y.cls y y ∈ lw_T ∧ Cond.initialized y.cls ∈ lw_T ∧ notMH y n
def Ys (y : MethodName) (cc : ByteArray) (maxL : Nat) (ret : Option FieldType) (n : Nat) : Prop := Cond.code y cc maxL ret ∈ lw_T ∧ Cond.static y ∈ lw_T ∧ Cond.initialized y.cls ∈ lw_T ∧ notMH y n
def Yn (y : MethodName) (cc : ByteArray) (maxL n : Nat) : Prop := Cond.code y cc maxL none ∈ lw_T ∧ Cond.instanceMethod y ∈ lw_T ∧ Cond.initialized y.cls ∈ lw_T ∧ y.name = "<init>" ∧ notMH y n
set_option maxRecDepth 20000 in
theorem inT0 : ∀ w ∈ u_ws RX0 TX0 5, w ∈ lw_T := T_pl _ [195, 197, 199, 201, 203] (by decide +kernel) (by decide +kernel)
set_option maxRecDepth 20000 in
theorem inT1 : ∀ w ∈ u_ws RX1 TX1 8, w ∈ lw_T := T_pl _ [108, 110, 112, 114, 116, 118, 120, 122] (by decide +kernel) (by decide +kernel)
set_option maxRecDepth 20000 in
theorem inT2 : ∀ w ∈ u_ws RX2 TX2 6, w ∈ lw_T := T_pl _ [134, 136, 138, 140, 142, 144] (by decide +kernel) (by decide +kernel)
set_option maxRecDepth 20000 in
theorem inT3 : ∀ w ∈ u_ws RX3 TX3 4, w ∈ lw_T := T_pl _ [217, 219, 221, 223] (by decide +kernel) (by decide +kernel)
set_option maxRecDepth 20000 in
theorem inT4 : ∀ w ∈ u_ws RX4 TX4 4, w ∈ lw_T := T_pl _ [174, 176, 178, 180] (by decide +kernel) (by decide +kernel)
set_option maxRecDepth 20000 in
theorem inT5 : ∀ w ∈ u_ws RX5 TX5 12, w ∈ lw_T := T_pl _ [280, 282, 284, 286, 288, 290, 292, 294, 296, 298, 300, 302] (by decide +kernel) (by decide +kernel)
set_option maxRecDepth 20000 in
theorem inT6 : ∀ w ∈ u_ws RX6 TX6 7, w ∈ lw_T := T_pl _ [240, 242, 244, 246, 248, 250, 252] (by decide +kernel) (by decide +kernel)
set_option maxRecDepth 20000 in
theorem inT7 : ∀ w ∈ u_ws RX7 TX7 10, w ∈ lw_T := T_pl _ [316, 318, 320, 322, 324, 326, 328, 330, 332, 334] (by decide +kernel) (by decide +kernel)
set_option maxRecDepth 20000 in
theorem inT8 : ∀ w ∈ u_ws RX8 TX8 24, w ∈ lw_T := T_pl _ [692, 694, 696, 698, 700, 702, 704, 706, 708, 710, 712, 714, 716, 718, 720, 722, 724, 726, 728, 730, 732, 734, 736, 738] (by decide +kernel) (by decide +kernel)
set_option maxRecDepth 20000 in
theorem ni_L : Cond.initialized RL ∈ lw_T := T_w 48 (by decide +kernel) (by rfl)
set_option maxRecDepth 20000 in
theorem ni_X7 : Cond.initialized RX7 ∈ lw_T := T_w 49 (by decide +kernel) (by rfl)
set_option maxRecDepth 20000 in
theorem ni_X2 : Cond.initialized RX2 ∈ lw_T := T_w 50 (by decide +kernel) (by rfl)
set_option maxRecDepth 20000 in
theorem ni_X1 : Cond.initialized RX1 ∈ lw_T := T_w 51 (by decide +kernel) (by rfl)
set_option maxRecDepth 20000 in
theorem ni_X4 : Cond.initialized RX4 ∈ lw_T := T_w 52 (by decide +kernel) (by rfl)
set_option maxRecDepth 20000 in
theorem ni_X0 : Cond.initialized RX0 ∈ lw_T := T_w 53 (by decide +kernel) (by rfl)
set_option maxRecDepth 20000 in
theorem ni_X3 : Cond.initialized RX3 ∈ lw_T := T_w 54 (by decide +kernel) (by rfl)
set_option maxRecDepth 20000 in
theorem ni_X6 : Cond.initialized RX6 ∈ lw_T := T_w 55 (by decide +kernel) (by rfl)
set_option maxRecDepth 20000 in
theorem ni_X5 : Cond.initialized RX5 ∈ lw_T := T_w 56 (by decide +kernel) (by rfl)
set_option maxRecDepth 20000 in
theorem ni_X8 : Cond.initialized RX8 ∈ lw_T := T_w 57 (by decide +kernel) (by rfl)
set_option maxRecDepth 20000 in
theorem ni_J10 : Cond.initialized RJ10 ∈ lw_T := T_w 58 (by decide +kernel) (by rfl)
set_option maxRecDepth 20000 in
theorem ni_J6 : Cond.initialized RJ6 ∈ lw_T := T_w 59 (by decide +kernel) (by rfl)
set_option maxRecDepth 20000 in
theorem cl_L_7 : Cond.classLink RL 7 RX7 ∈ lw_T := T_w 60 (by decide +kernel) (by rfl)
set_option maxRecDepth 20000 in
theorem is_X7 : Cond.instantiable RX7 10 ∈ lw_T := T_w 61 (by decide +kernel) (by rfl)
set_option maxRecDepth 20000 in
theorem ml_L_9 : Cond.methodLink RL 9 yX7_init ∈ lw_T := T_w 62 (by decide +kernel) (by rfl)
set_option maxRecDepth 20000 in
theorem ml_X7_1 : Cond.methodLink RX7 1 objectInit ∈ lw_T := T_w 65 (by decide +kernel) (by rfl)
set_option maxRecDepth 20000 in
theorem in_Object : Cond.instanceMethod objectInit ∈ lw_T := T_w 66 (by decide +kernel) (by rfl)
set_option maxRecDepth 20000 in
theorem cd_Object : Cond.code objectInit ⟨#[0xb1]⟩ 1 none ∈ lw_T := T_w 67 (by rfl) (by rfl)
set_option maxRecDepth 20000 in
theorem cl_X7_7 : Cond.classLink RX7 7 RX2 ∈ lw_T := T_w 68 (by decide +kernel) (by rfl)
set_option maxRecDepth 20000 in
theorem is_X2 : Cond.instantiable RX2 6 ∈ lw_T := T_w 69 (by decide +kernel) (by rfl)
set_option maxRecDepth 20000 in
theorem ml_X2_3 : Cond.methodLink RX2 3 objectInit ∈ lw_T := T_w 73 (by decide +kernel) (by rfl)
set_option maxRecDepth 20000 in
theorem cl_X2_9 : Cond.classLink RX2 9 RX1 ∈ lw_T := T_w 74 (by decide +kernel) (by rfl)
set_option maxRecDepth 20000 in
theorem is_X1 : Cond.instantiable RX1 8 ∈ lw_T := T_w 75 (by decide +kernel) (by rfl)
set_option maxRecDepth 20000 in
theorem ml_X1_3 : Cond.methodLink RX1 3 objectInit ∈ lw_T := T_w 79 (by decide +kernel) (by rfl)
set_option maxRecDepth 20000 in
theorem fl_X1_9 : Cond.fieldLink RX1 9 "SneakPaths$Net" "nodes" "I" ∈ lw_T := T_w 80 (by decide +kernel) (by rfl)
set_option maxRecDepth 20000 in
theorem fl_X2_60 : Cond.fieldLink RX2 60 "SneakPaths$Net" "nodes" "I" ∈ lw_T := T_w 81 (by decide +kernel) (by rfl)
set_option maxRecDepth 20000 in
theorem fl_X6_72 : Cond.fieldLink RX6 72 "SneakPaths$Net" "nodes" "I" ∈ lw_T := T_w 82 (by decide +kernel) (by rfl)
set_option maxRecDepth 20000 in
theorem fl_X7_230 : Cond.fieldLink RX7 230 "SneakPaths$Net" "nodes" "I" ∈ lw_T := T_w 83 (by decide +kernel) (by rfl)
set_option maxRecDepth 20000 in
theorem fl_X1_31 : Cond.fieldLink RX1 31 "SneakPaths$Net" "contacts" "I" ∈ lw_T := T_w 84 (by decide +kernel) (by rfl)
set_option maxRecDepth 20000 in
theorem fl_X6_33 : Cond.fieldLink RX6 33 "SneakPaths$Net" "contacts" "I" ∈ lw_T := T_w 85 (by decide +kernel) (by rfl)
set_option maxRecDepth 20000 in
theorem fl_X5_56 : Cond.fieldLink RX5 56 "SneakPaths$Net" "contacts" "I" ∈ lw_T := T_w 86 (by decide +kernel) (by rfl)
set_option maxRecDepth 20000 in
theorem fl_X2_66 : Cond.fieldLink RX2 66 "SneakPaths$Net" "contacts" "I" ∈ lw_T := T_w 87 (by decide +kernel) (by rfl)
set_option maxRecDepth 20000 in
theorem fl_X7_183 : Cond.fieldLink RX7 183 "SneakPaths$Net" "contacts" "I" ∈ lw_T := T_w 88 (by decide +kernel) (by rfl)
set_option maxRecDepth 20000 in
theorem fl_X1_34 : Cond.fieldLink RX1 34 "SneakPaths$Net" "loads" "I" ∈ lw_T := T_w 89 (by decide +kernel) (by rfl)
set_option maxRecDepth 20000 in
theorem fl_X2_73 : Cond.fieldLink RX2 73 "SneakPaths$Net" "loads" "I" ∈ lw_T := T_w 90 (by decide +kernel) (by rfl)
set_option maxRecDepth 20000 in
theorem fl_X7_233 : Cond.fieldLink RX7 233 "SneakPaths$Net" "loads" "I" ∈ lw_T := T_w 91 (by decide +kernel) (by rfl)
set_option maxRecDepth 20000 in
theorem fl_X1_15 : Cond.fieldLink RX1 15 "SneakPaths$Net" "kind" "[I" ∈ lw_T := T_w 92 (by decide +kernel) (by rfl)
set_option maxRecDepth 20000 in
theorem fl_X6_55 : Cond.fieldLink RX6 55 "SneakPaths$Net" "kind" "[I" ∈ lw_T := T_w 93 (by decide +kernel) (by rfl)
set_option maxRecDepth 20000 in
theorem fl_X7_108 : Cond.fieldLink RX7 108 "SneakPaths$Net" "kind" "[I" ∈ lw_T := T_w 94 (by decide +kernel) (by rfl)
set_option maxRecDepth 20000 in
theorem fl_X1_19 : Cond.fieldLink RX1 19 "SneakPaths$Net" "first" "[I" ∈ lw_T := T_w 95 (by decide +kernel) (by rfl)
set_option maxRecDepth 20000 in
theorem fl_X7_111 : Cond.fieldLink RX7 111 "SneakPaths$Net" "first" "[I" ∈ lw_T := T_w 96 (by decide +kernel) (by rfl)
set_option maxRecDepth 20000 in
theorem fl_X6_79 : Cond.fieldLink RX6 79 "SneakPaths$Net" "first" "[I" ∈ lw_T := T_w 97 (by decide +kernel) (by rfl)
set_option maxRecDepth 20000 in
theorem fl_X1_22 : Cond.fieldLink RX1 22 "SneakPaths$Net" "second" "[I" ∈ lw_T := T_w 98 (by decide +kernel) (by rfl)
set_option maxRecDepth 20000 in
theorem fl_X7_114 : Cond.fieldLink RX7 114 "SneakPaths$Net" "second" "[I" ∈ lw_T := T_w 99 (by decide +kernel) (by rfl)
set_option maxRecDepth 20000 in
theorem fl_X6_82 : Cond.fieldLink RX6 82 "SneakPaths$Net" "second" "[I" ∈ lw_T := T_w 100 (by decide +kernel) (by rfl)
set_option maxRecDepth 20000 in
theorem fl_X1_25 : Cond.fieldLink RX1 25 "SneakPaths$Net" "by" "[I" ∈ lw_T := T_w 101 (by decide +kernel) (by rfl)
set_option maxRecDepth 20000 in
theorem fl_X6_58 : Cond.fieldLink RX6 58 "SneakPaths$Net" "by" "[I" ∈ lw_T := T_w 102 (by decide +kernel) (by rfl)
set_option maxRecDepth 20000 in
theorem fl_X7_117 : Cond.fieldLink RX7 117 "SneakPaths$Net" "by" "[I" ∈ lw_T := T_w 103 (by decide +kernel) (by rfl)
set_option maxRecDepth 20000 in
theorem fl_X1_28 : Cond.fieldLink RX1 28 "SneakPaths$Net" "loadNode" "[I" ∈ lw_T := T_w 104 (by decide +kernel) (by rfl)
set_option maxRecDepth 20000 in
theorem fl_X5_26 : Cond.fieldLink RX5 26 "SneakPaths$Net" "loadNode" "[I" ∈ lw_T := T_w 105 (by decide +kernel) (by rfl)
set_option maxRecDepth 20000 in
theorem fl_X7_132 : Cond.fieldLink RX7 132 "SneakPaths$Net" "loadNode" "[I" ∈ lw_T := T_w 106 (by decide +kernel) (by rfl)
set_option maxRecDepth 20000 in
theorem fl_X6_89 : Cond.fieldLink RX6 89 "SneakPaths$Net" "loadNode" "[I" ∈ lw_T := T_w 107 (by decide +kernel) (by rfl)
set_option maxRecDepth 20000 in
theorem ac_int : Cond.arrayClass .int ∈ lw_T := T_w 125 (by decide +kernel) (by rfl)
set_option maxRecDepth 20000 in
theorem fl_X2_12 : Cond.fieldLink RX2 12 "SneakPaths$Reader" "draft" "LSneakPaths$Net;" ∈ lw_T := T_w 126 (by decide +kernel) (by rfl)
set_option maxRecDepth 20000 in
theorem fl_X7_86 : Cond.fieldLink RX7 86 "SneakPaths$Reader" "draft" "LSneakPaths$Net;" ∈ lw_T := T_w 127 (by decide +kernel) (by rfl)
set_option maxRecDepth 20000 in
theorem fl_X2_22 : Cond.fieldLink RX2 22 "SneakPaths$Reader" "length" "I" ∈ lw_T := T_w 128 (by decide +kernel) (by rfl)
set_option maxRecDepth 20000 in
theorem fl_X7_78 : Cond.fieldLink RX7 78 "SneakPaths$Reader" "length" "I" ∈ lw_T := T_w 129 (by decide +kernel) (by rfl)
set_option maxRecDepth 20000 in
theorem fl_X2_18 : Cond.fieldLink RX2 18 "SneakPaths$Reader" "letters" "[I" ∈ lw_T := T_w 130 (by decide +kernel) (by rfl)
set_option maxRecDepth 20000 in
theorem fl_X2_29 : Cond.fieldLink RX2 29 "SneakPaths$Reader" "at" "I" ∈ lw_T := T_w 131 (by decide +kernel) (by rfl)
set_option maxRecDepth 20000 in
theorem fl_X2_35 : Cond.fieldLink RX2 35 "SneakPaths$Reader" "token" "I" ∈ lw_T := T_w 132 (by decide +kernel) (by rfl)
set_option maxRecDepth 20000 in
theorem fl_X2_42 : Cond.fieldLink RX2 42 "SneakPaths$Reader" "place" "I" ∈ lw_T := T_w 133 (by decide +kernel) (by rfl)
set_option maxRecDepth 20000 in
theorem cl_X7_16 : Cond.classLink RX7 16 RX1 ∈ lw_T := T_w 147 (by decide +kernel) (by rfl)
set_option maxRecDepth 20000 in
theorem cl_X7_23 : Cond.classLink RX7 23 RX4 ∈ lw_T := T_w 149 (by decide +kernel) (by rfl)
set_option maxRecDepth 20000 in
theorem is_X4 : Cond.instantiable RX4 4 ∈ lw_T := T_w 150 (by decide +kernel) (by rfl)
set_option maxRecDepth 20000 in
theorem ml_X7_25 : Cond.methodLink RX7 25 yX4_init ∈ lw_T := T_w 151 (by decide +kernel) (by rfl)
set_option maxRecDepth 20000 in
theorem ml_X4_3 : Cond.methodLink RX4 3 objectInit ∈ lw_T := T_w 154 (by decide +kernel) (by rfl)
set_option maxRecDepth 20000 in
theorem ml_X4_24 : Cond.methodLink RX4 24 yX4_reset ∈ lw_T := T_w 155 (by decide +kernel) (by rfl)
set_option maxRecDepth 20000 in
theorem fl_X4_9 : Cond.fieldLink RX4 9 "SneakPaths$Setting" "wished" "[I" ∈ lw_T := T_w 159 (by decide +kernel) (by rfl)
set_option maxRecDepth 20000 in
theorem fl_X0_31 : Cond.fieldLink RX0 31 "SneakPaths$Setting" "wished" "[I" ∈ lw_T := T_w 160 (by decide +kernel) (by rfl)
set_option maxRecDepth 20000 in
theorem fl_X7_139 : Cond.fieldLink RX7 139 "SneakPaths$Setting" "wished" "[I" ∈ lw_T := T_w 161 (by decide +kernel) (by rfl)
set_option maxRecDepth 20000 in
theorem fl_X4_15 : Cond.fieldLink RX4 15 "SneakPaths$Setting" "cure" "[I" ∈ lw_T := T_w 162 (by decide +kernel) (by rfl)
set_option maxRecDepth 20000 in
theorem fl_X6_39 : Cond.fieldLink RX6 39 "SneakPaths$Setting" "cure" "[I" ∈ lw_T := T_w 163 (by decide +kernel) (by rfl)
set_option maxRecDepth 20000 in
theorem fl_X0_36 : Cond.fieldLink RX0 36 "SneakPaths$Setting" "cure" "[I" ∈ lw_T := T_w 164 (by decide +kernel) (by rfl)
set_option maxRecDepth 20000 in
theorem fl_X7_120 : Cond.fieldLink RX7 120 "SneakPaths$Setting" "cure" "[I" ∈ lw_T := T_w 165 (by decide +kernel) (by rfl)
set_option maxRecDepth 20000 in
theorem fl_X4_18 : Cond.fieldLink RX4 18 "SneakPaths$Setting" "cureBy" "[I" ∈ lw_T := T_w 166 (by decide +kernel) (by rfl)
set_option maxRecDepth 20000 in
theorem fl_X6_44 : Cond.fieldLink RX6 44 "SneakPaths$Setting" "cureBy" "[I" ∈ lw_T := T_w 167 (by decide +kernel) (by rfl)
set_option maxRecDepth 20000 in
theorem fl_X0_39 : Cond.fieldLink RX0 39 "SneakPaths$Setting" "cureBy" "[I" ∈ lw_T := T_w 168 (by decide +kernel) (by rfl)
set_option maxRecDepth 20000 in
theorem fl_X7_123 : Cond.fieldLink RX7 123 "SneakPaths$Setting" "cureBy" "[I" ∈ lw_T := T_w 169 (by decide +kernel) (by rfl)
set_option maxRecDepth 20000 in
theorem fl_X4_21 : Cond.fieldLink RX4 21 "SneakPaths$Setting" "stick" "[I" ∈ lw_T := T_w 170 (by decide +kernel) (by rfl)
set_option maxRecDepth 20000 in
theorem fl_X6_47 : Cond.fieldLink RX6 47 "SneakPaths$Setting" "stick" "[I" ∈ lw_T := T_w 171 (by decide +kernel) (by rfl)
set_option maxRecDepth 20000 in
theorem fl_X0_42 : Cond.fieldLink RX0 42 "SneakPaths$Setting" "stick" "[I" ∈ lw_T := T_w 172 (by decide +kernel) (by rfl)
set_option maxRecDepth 20000 in
theorem fl_X7_126 : Cond.fieldLink RX7 126 "SneakPaths$Setting" "stick" "[I" ∈ lw_T := T_w 173 (by decide +kernel) (by rfl)
set_option maxRecDepth 20000 in
theorem cl_X7_30 : Cond.classLink RX7 30 RX0 ∈ lw_T := T_w 183 (by decide +kernel) (by rfl)
set_option maxRecDepth 20000 in
theorem is_X0 : Cond.instantiable RX0 5 ∈ lw_T := T_w 184 (by decide +kernel) (by rfl)
set_option maxRecDepth 20000 in
theorem ml_X0_3 : Cond.methodLink RX0 3 objectInit ∈ lw_T := T_w 188 (by decide +kernel) (by rfl)
set_option maxRecDepth 20000 in
theorem fl_X0_24 : Cond.fieldLink RX0 24 "SneakPaths$History" "known" "I" ∈ lw_T := T_w 189 (by decide +kernel) (by rfl)
set_option maxRecDepth 20000 in
theorem fl_X7_96 : Cond.fieldLink RX7 96 "SneakPaths$History" "known" "I" ∈ lw_T := T_w 190 (by decide +kernel) (by rfl)
set_option maxRecDepth 20000 in
theorem fl_X0_9 : Cond.fieldLink RX0 9 "SneakPaths$History" "sort" "[I" ∈ lw_T := T_w 191 (by decide +kernel) (by rfl)
set_option maxRecDepth 20000 in
theorem fl_X0_15 : Cond.fieldLink RX0 15 "SneakPaths$History" "which" "[I" ∈ lw_T := T_w 192 (by decide +kernel) (by rfl)
set_option maxRecDepth 20000 in
theorem fl_X0_18 : Cond.fieldLink RX0 18 "SneakPaths$History" "was" "[I" ∈ lw_T := T_w 193 (by decide +kernel) (by rfl)
set_option maxRecDepth 20000 in
theorem fl_X0_21 : Cond.fieldLink RX0 21 "SneakPaths$History" "wasBy" "[I" ∈ lw_T := T_w 194 (by decide +kernel) (by rfl)
set_option maxRecDepth 20000 in
theorem cl_X7_37 : Cond.classLink RX7 37 RX3 ∈ lw_T := T_w 206 (by decide +kernel) (by rfl)
set_option maxRecDepth 20000 in
theorem is_X3 : Cond.instantiable RX3 4 ∈ lw_T := T_w 207 (by decide +kernel) (by rfl)
set_option maxRecDepth 20000 in
theorem ml_X3_3 : Cond.methodLink RX3 3 objectInit ∈ lw_T := T_w 211 (by decide +kernel) (by rfl)
set_option maxRecDepth 20000 in
theorem fl_X3_21 : Cond.fieldLink RX3 21 "SneakPaths$Seen" "size" "I" ∈ lw_T := T_w 212 (by decide +kernel) (by rfl)
set_option maxRecDepth 20000 in
theorem fl_X7_99 : Cond.fieldLink RX7 99 "SneakPaths$Seen" "size" "I" ∈ lw_T := T_w 213 (by decide +kernel) (by rfl)
set_option maxRecDepth 20000 in
theorem fl_X3_9 : Cond.fieldLink RX3 9 "SneakPaths$Seen" "which" "[I" ∈ lw_T := T_w 214 (by decide +kernel) (by rfl)
set_option maxRecDepth 20000 in
theorem fl_X3_15 : Cond.fieldLink RX3 15 "SneakPaths$Seen" "state" "[I" ∈ lw_T := T_w 215 (by decide +kernel) (by rfl)
set_option maxRecDepth 20000 in
theorem fl_X3_18 : Cond.fieldLink RX3 18 "SneakPaths$Seen" "fed" "[I" ∈ lw_T := T_w 216 (by decide +kernel) (by rfl)
set_option maxRecDepth 20000 in
theorem cl_X7_44 : Cond.classLink RX7 44 RX6 ∈ lw_T := T_w 226 (by decide +kernel) (by rfl)
set_option maxRecDepth 20000 in
theorem is_X6 : Cond.instantiable RX6 7 ∈ lw_T := T_w 227 (by decide +kernel) (by rfl)
set_option maxRecDepth 20000 in
theorem ml_X7_46 : Cond.methodLink RX7 46 yX6_init ∈ lw_T := T_w 228 (by decide +kernel) (by rfl)
set_option maxRecDepth 20000 in
theorem ml_X6_3 : Cond.methodLink RX6 3 objectInit ∈ lw_T := T_w 231 (by decide +kernel) (by rfl)
set_option maxRecDepth 20000 in
theorem fl_X6_9 : Cond.fieldLink RX6 9 "SneakPaths$Ways" "shut" "[I" ∈ lw_T := T_w 232 (by decide +kernel) (by rfl)
set_option maxRecDepth 20000 in
theorem fl_X5_65 : Cond.fieldLink RX5 65 "SneakPaths$Ways" "shut" "[I" ∈ lw_T := T_w 233 (by decide +kernel) (by rfl)
set_option maxRecDepth 20000 in
theorem fl_X6_25 : Cond.fieldLink RX6 25 "SneakPaths$Ways" "plan" "LSneakPaths$Net;" ∈ lw_T := T_w 234 (by decide +kernel) (by rfl)
set_option maxRecDepth 20000 in
theorem fl_X6_29 : Cond.fieldLink RX6 29 "SneakPaths$Ways" "now" "LSneakPaths$Setting;" ∈ lw_T := T_w 235 (by decide +kernel) (by rfl)
set_option maxRecDepth 20000 in
theorem fl_X6_15 : Cond.fieldLink RX6 15 "SneakPaths$Ways" "forth" "[Z" ∈ lw_T := T_w 236 (by decide +kernel) (by rfl)
set_option maxRecDepth 20000 in
theorem fl_X6_19 : Cond.fieldLink RX6 19 "SneakPaths$Ways" "back" "[Z" ∈ lw_T := T_w 237 (by decide +kernel) (by rfl)
set_option maxRecDepth 20000 in
theorem fl_X6_22 : Cond.fieldLink RX6 22 "SneakPaths$Ways" "reached" "[I" ∈ lw_T := T_w 238 (by decide +kernel) (by rfl)
set_option maxRecDepth 20000 in
theorem fl_X6_68 : Cond.fieldLink RX6 68 "SneakPaths$Ways" "grew" "Z" ∈ lw_T := T_w 239 (by decide +kernel) (by rfl)
set_option maxRecDepth 20000 in
theorem ac_boolean : Cond.arrayClass .boolean ∈ lw_T := T_w 255 (by decide +kernel) (by rfl)
set_option maxRecDepth 20000 in
theorem cl_X7_53 : Cond.classLink RX7 53 RX5 ∈ lw_T := T_w 256 (by decide +kernel) (by rfl)
set_option maxRecDepth 20000 in
theorem is_X5 : Cond.instantiable RX5 12 ∈ lw_T := T_w 257 (by decide +kernel) (by rfl)
set_option maxRecDepth 20000 in
theorem ml_X7_55 : Cond.methodLink RX7 55 yX5_init ∈ lw_T := T_w 258 (by decide +kernel) (by rfl)
set_option maxRecDepth 20000 in
theorem ml_X5_3 : Cond.methodLink RX5 3 objectInit ∈ lw_T := T_w 261 (by decide +kernel) (by rfl)
set_option maxRecDepth 20000 in
theorem fl_X5_41 : Cond.fieldLink RX5 41 "SneakPaths$Walk" "found" "I" ∈ lw_T := T_w 262 (by decide +kernel) (by rfl)
set_option maxRecDepth 20000 in
theorem fl_X7_164 : Cond.fieldLink RX7 164 "SneakPaths$Walk" "found" "I" ∈ lw_T := T_w 263 (by decide +kernel) (by rfl)
set_option maxRecDepth 20000 in
theorem fl_X5_68 : Cond.fieldLink RX5 68 "SneakPaths$Walk" "bits" "I" ∈ lw_T := T_w 264 (by decide +kernel) (by rfl)
set_option maxRecDepth 20000 in
theorem fl_X7_167 : Cond.fieldLink RX7 167 "SneakPaths$Walk" "bits" "I" ∈ lw_T := T_w 265 (by decide +kernel) (by rfl)
set_option maxRecDepth 20000 in
theorem fl_X5_71 : Cond.fieldLink RX5 71 "SneakPaths$Walk" "length" "I" ∈ lw_T := T_w 266 (by decide +kernel) (by rfl)
set_option maxRecDepth 20000 in
theorem fl_X7_170 : Cond.fieldLink RX7 170 "SneakPaths$Walk" "length" "I" ∈ lw_T := T_w 267 (by decide +kernel) (by rfl)
set_option maxRecDepth 20000 in
theorem fl_X5_74 : Cond.fieldLink RX5 74 "SneakPaths$Walk" "shut" "I" ∈ lw_T := T_w 268 (by decide +kernel) (by rfl)
set_option maxRecDepth 20000 in
theorem fl_X7_171 : Cond.fieldLink RX7 171 "SneakPaths$Walk" "shut" "I" ∈ lw_T := T_w 269 (by decide +kernel) (by rfl)
set_option maxRecDepth 20000 in
theorem fl_X5_44 : Cond.fieldLink RX5 44 "SneakPaths$Walk" "fewest" "I" ∈ lw_T := T_w 270 (by decide +kernel) (by rfl)
set_option maxRecDepth 20000 in
theorem fl_X7_177 : Cond.fieldLink RX7 177 "SneakPaths$Walk" "fewest" "I" ∈ lw_T := T_w 271 (by decide +kernel) (by rfl)
set_option maxRecDepth 20000 in
theorem fl_X5_9 : Cond.fieldLink RX5 9 "SneakPaths$Walk" "shortestTrail" "[I" ∈ lw_T := T_w 272 (by decide +kernel) (by rfl)
set_option maxRecDepth 20000 in
theorem fl_X7_180 : Cond.fieldLink RX7 180 "SneakPaths$Walk" "shortestTrail" "[I" ∈ lw_T := T_w 273 (by decide +kernel) (by rfl)
set_option maxRecDepth 20000 in
theorem fl_X5_18 : Cond.fieldLink RX5 18 "SneakPaths$Walk" "plan" "LSneakPaths$Net;" ∈ lw_T := T_w 274 (by decide +kernel) (by rfl)
set_option maxRecDepth 20000 in
theorem fl_X5_22 : Cond.fieldLink RX5 22 "SneakPaths$Walk" "ways" "LSneakPaths$Ways;" ∈ lw_T := T_w 275 (by decide +kernel) (by rfl)
set_option maxRecDepth 20000 in
theorem fl_X5_15 : Cond.fieldLink RX5 15 "SneakPaths$Walk" "trail" "[I" ∈ lw_T := T_w 276 (by decide +kernel) (by rfl)
set_option maxRecDepth 20000 in
theorem fl_X5_31 : Cond.fieldLink RX5 31 "SneakPaths$Walk" "goal" "I" ∈ lw_T := T_w 277 (by decide +kernel) (by rfl)
set_option maxRecDepth 20000 in
theorem fl_X5_35 : Cond.fieldLink RX5 35 "SneakPaths$Walk" "wantedPath" "I" ∈ lw_T := T_w 278 (by decide +kernel) (by rfl)
set_option maxRecDepth 20000 in
theorem fl_X5_38 : Cond.fieldLink RX5 38 "SneakPaths$Walk" "wantedState" "I" ∈ lw_T := T_w 279 (by decide +kernel) (by rfl)
set_option maxRecDepth 20000 in
theorem fl_X7_10 : Cond.fieldLink RX7 10 "SneakPaths" "reader" "LSneakPaths$Reader;" ∈ lw_T := T_w 306 (by decide +kernel) (by rfl)
set_option maxRecDepth 20000 in
theorem fl_X7_19 : Cond.fieldLink RX7 19 "SneakPaths" "plan" "LSneakPaths$Net;" ∈ lw_T := T_w 307 (by decide +kernel) (by rfl)
set_option maxRecDepth 20000 in
theorem fl_X7_26 : Cond.fieldLink RX7 26 "SneakPaths" "now" "LSneakPaths$Setting;" ∈ lw_T := T_w 308 (by decide +kernel) (by rfl)
set_option maxRecDepth 20000 in
theorem fl_X7_33 : Cond.fieldLink RX7 33 "SneakPaths" "history" "LSneakPaths$History;" ∈ lw_T := T_w 309 (by decide +kernel) (by rfl)
set_option maxRecDepth 20000 in
theorem fl_X7_40 : Cond.fieldLink RX7 40 "SneakPaths" "seen" "LSneakPaths$Seen;" ∈ lw_T := T_w 310 (by decide +kernel) (by rfl)
set_option maxRecDepth 20000 in
theorem fl_X7_49 : Cond.fieldLink RX7 49 "SneakPaths" "ways" "LSneakPaths$Ways;" ∈ lw_T := T_w 311 (by decide +kernel) (by rfl)
set_option maxRecDepth 20000 in
theorem fl_X7_58 : Cond.fieldLink RX7 58 "SneakPaths" "walk" "LSneakPaths$Walk;" ∈ lw_T := T_w 312 (by decide +kernel) (by rfl)
set_option maxRecDepth 20000 in
theorem fl_X7_62 : Cond.fieldLink RX7 62 "SneakPaths" "images" "[LSneakPaths$Setting;" ∈ lw_T := T_w 313 (by decide +kernel) (by rfl)
set_option maxRecDepth 20000 in
theorem fl_X7_66 : Cond.fieldLink RX7 66 "SneakPaths" "kept" "[Z" ∈ lw_T := T_w 314 (by decide +kernel) (by rfl)
set_option maxRecDepth 20000 in
theorem fl_X7_70 : Cond.fieldLink RX7 70 "SneakPaths" "missingBefore" "[I" ∈ lw_T := T_w 315 (by decide +kernel) (by rfl)
set_option maxRecDepth 20000 in
theorem ml_L_13 : Cond.methodLink RL 13 yX7_type ∈ lw_T := T_w 337 (by decide +kernel) (by rfl)
set_option maxRecDepth 20000 in
theorem ml_X7_74 : Cond.methodLink RX7 74 yX2_append ∈ lw_T := T_w 341 (by decide +kernel) (by rfl)
set_option maxRecDepth 20000 in
theorem ml_L_18 : Cond.methodLink RL 18 yX7_clear ∈ lw_T := T_w 345 (by decide +kernel) (by rfl)
set_option maxRecDepth 20000 in
theorem ml_L_23 : Cond.methodLink RL 23 yX7_net ∈ lw_T := T_w 349 (by decide +kernel) (by rfl)
set_option maxRecDepth 20000 in
theorem ml_X7_82 : Cond.methodLink RX7 82 yX2_read ∈ lw_T := T_w 353 (by decide +kernel) (by rfl)
set_option maxRecDepth 20000 in
theorem ml_X2_26 : Cond.methodLink RX2 26 yX1_reset ∈ lw_T := T_w 357 (by decide +kernel) (by rfl)
set_option maxRecDepth 20000 in
theorem ml_X2_32 : Cond.methodLink RX2 32 yX2_nextToken ∈ lw_T := T_w 361 (by decide +kernel) (by rfl)
set_option maxRecDepth 20000 in
theorem ml_X2_86 : Cond.methodLink RX2 86 yX2_letterAt ∈ lw_T := T_w 365 (by decide +kernel) (by rfl)
set_option maxRecDepth 20000 in
theorem ml_X2_83 : Cond.methodLink RX2 83 yX2_isDigit ∈ lw_T := T_w 369 (by decide +kernel) (by rfl)
set_option maxRecDepth 20000 in
theorem ml_X2_38 : Cond.methodLink RX2 38 yX2_readItem ∈ lw_T := T_w 372 (by decide +kernel) (by rfl)
set_option maxRecDepth 20000 in
theorem ml_X2_45 : Cond.methodLink RX2 45 yX2_readNodes ∈ lw_T := T_w 376 (by decide +kernel) (by rfl)
set_option maxRecDepth 20000 in
theorem ml_X2_56 : Cond.methodLink RX2 56 yX2_readNumber ∈ lw_T := T_w 380 (by decide +kernel) (by rfl)
set_option maxRecDepth 20000 in
theorem ml_X2_63 : Cond.methodLink RX2 63 yX2_readSemicolon ∈ lw_T := T_w 384 (by decide +kernel) (by rfl)
set_option maxRecDepth 20000 in
theorem ml_X2_49 : Cond.methodLink RX2 49 yX2_readContact ∈ lw_T := T_w 388 (by decide +kernel) (by rfl)
set_option maxRecDepth 20000 in
theorem ml_X2_69 : Cond.methodLink RX2 69 yX1_addContact ∈ lw_T := T_w 392 (by decide +kernel) (by rfl)
set_option maxRecDepth 20000 in
theorem ml_X2_53 : Cond.methodLink RX2 53 yX2_readLoad ∈ lw_T := T_w 396 (by decide +kernel) (by rfl)
set_option maxRecDepth 20000 in
theorem ml_X2_76 : Cond.methodLink RX2 76 yX1_hasLoadAt ∈ lw_T := T_w 400 (by decide +kernel) (by rfl)
set_option maxRecDepth 20000 in
theorem ml_X2_79 : Cond.methodLink RX2 79 yX1_addLoad ∈ lw_T := T_w 404 (by decide +kernel) (by rfl)
set_option maxRecDepth 20000 in
theorem ml_X7_89 : Cond.methodLink RX7 89 yX1_takeFrom ∈ lw_T := T_w 408 (by decide +kernel) (by rfl)
set_option maxRecDepth 20000 in
theorem ml_X1_37 : Cond.methodLink RX1 37 arraycopyName ∈ lw_T := T_w 412 (by decide +kernel) (by rfl)
set_option maxRecDepth 20000 in
theorem static_arraycopy : Cond.static arraycopyName ∈ lw_T := T_w 413 (by decide +kernel) (by rfl)
set_option maxRecDepth 20000 in
theorem native_arraycopy : Cond.native arraycopyName ∈ lw_T := T_w 414 (by decide +kernel) (by rfl)
set_option maxRecDepth 20000 in
theorem ml_X7_93 : Cond.methodLink RX7 93 yX4_reset ∈ lw_T := T_w 415 (by decide +kernel) (by rfl)
set_option maxRecDepth 20000 in
theorem ml_X7_102 : Cond.methodLink RX7 102 yX7_wishWhatIsFed ∈ lw_T := T_w 416 (by decide +kernel) (by rfl)
set_option maxRecDepth 20000 in
theorem ml_X7_157 : Cond.methodLink RX7 157 yX6_layAll ∈ lw_T := T_w 420 (by decide +kernel) (by rfl)
set_option maxRecDepth 20000 in
theorem ml_X6_50 : Cond.methodLink RX6 50 yX6_layOne ∈ lw_T := T_w 424 (by decide +kernel) (by rfl)
set_option maxRecDepth 20000 in
theorem co_X6_54 : Cond.constant RX6 54 (65535) ∈ lw_T := T_w 428 (by decide +kernel) (by rfl)
set_option maxRecDepth 20000 in
theorem ml_X6_61 : Cond.methodLink RX6 61 yX6_shutBy ∈ lw_T := T_w 429 (by decide +kernel) (by rfl)
set_option maxRecDepth 20000 in
theorem ml_X7_217 : Cond.methodLink RX7 217 yX6_spread ∈ lw_T := T_w 434 (by decide +kernel) (by rfl)
set_option maxRecDepth 20000 in
theorem ml_X6_75 : Cond.methodLink RX6 75 yX6_spreadOver ∈ lw_T := T_w 438 (by decide +kernel) (by rfl)
set_option maxRecDepth 20000 in
theorem ml_X6_85 : Cond.methodLink RX6 85 yX6_flow ∈ lw_T := T_w 442 (by decide +kernel) (by rfl)
set_option maxRecDepth 20000 in
theorem ml_X7_242 : Cond.methodLink RX7 242 yX6_fed ∈ lw_T := T_w 446 (by decide +kernel) (by rfl)
set_option maxRecDepth 20000 in
theorem ml_L_27 : Cond.methodLink RL 27 yX7_contact ∈ lw_T := T_w 450 (by decide +kernel) (by rfl)
set_option maxRecDepth 20000 in
theorem ml_X7_105 : Cond.methodLink RX7 105 yX7_isContact ∈ lw_T := T_w 454 (by decide +kernel) (by rfl)
set_option maxRecDepth 20000 in
theorem ml_L_32 : Cond.methodLink RL 32 yX7_load ∈ lw_T := T_w 458 (by decide +kernel) (by rfl)
set_option maxRecDepth 20000 in
theorem ml_X7_129 : Cond.methodLink RX7 129 yX7_isLoad ∈ lw_T := T_w 462 (by decide +kernel) (by rfl)
set_option maxRecDepth 20000 in
theorem ml_X7_135 : Cond.methodLink RX7 135 yX7_fedNow ∈ lw_T := T_w 466 (by decide +kernel) (by rfl)
set_option maxRecDepth 20000 in
theorem ml_X7_142 : Cond.methodLink RX7 142 yX7_howManyPaths ∈ lw_T := T_w 470 (by decide +kernel) (by rfl)
set_option maxRecDepth 20000 in
theorem ml_X7_160 : Cond.methodLink RX7 160 yX5_run ∈ lw_T := T_w 474 (by decide +kernel) (by rfl)
set_option maxRecDepth 20000 in
theorem co_X5_47 : Cond.constant RX5 47 (65535) ∈ lw_T := T_w 478 (by decide +kernel) (by rfl)
set_option maxRecDepth 20000 in
theorem ml_X5_48 : Cond.methodLink RX5 48 yX5_goOn ∈ lw_T := T_w 479 (by decide +kernel) (by rfl)
set_option maxRecDepth 20000 in
theorem ml_X5_52 : Cond.methodLink RX5 52 yX5_arrive ∈ lw_T := T_w 483 (by decide +kernel) (by rfl)
set_option maxRecDepth 20000 in
theorem ml_X5_76 : Cond.methodLink RX5 76 arraycopyName ∈ lw_T := T_w 487 (by decide +kernel) (by rfl)
set_option maxRecDepth 20000 in
theorem ml_X5_59 : Cond.methodLink RX5 59 yX6_nodeBehind ∈ lw_T := T_w 488 (by decide +kernel) (by rfl)
set_option maxRecDepth 20000 in
theorem ml_L_36 : Cond.methodLink RL 36 yX7_wishes ∈ lw_T := T_w 492 (by decide +kernel) (by rfl)
set_option maxRecDepth 20000 in
theorem co_X7_145 : Cond.constant RX7 145 (65535) ∈ lw_T := T_w 496 (by decide +kernel) (by rfl)
set_option maxRecDepth 20000 in
theorem ml_X7_146 : Cond.methodLink RX7 146 yX0_note ∈ lw_T := T_w 497 (by decide +kernel) (by rfl)
set_option maxRecDepth 20000 in
theorem ml_X0_28 : Cond.methodLink RX0 28 yX0_dropOldest ∈ lw_T := T_w 501 (by decide +kernel) (by rfl)
set_option maxRecDepth 20000 in
theorem ml_X0_45 : Cond.methodLink RX0 45 arraycopyName ∈ lw_T := T_w 505 (by decide +kernel) (by rfl)
set_option maxRecDepth 20000 in
theorem ml_L_40 : Cond.methodLink RL 40 yX7_cures ∈ lw_T := T_w 506 (by decide +kernel) (by rfl)
set_option maxRecDepth 20000 in
theorem ml_X7_150 : Cond.methodLink RX7 150 yX7_choicesOfSwitch ∈ lw_T := T_w 510 (by decide +kernel) (by rfl)
set_option maxRecDepth 20000 in
theorem ml_L_45 : Cond.methodLink RL 45 yX7_sticks ∈ lw_T := T_w 513 (by decide +kernel) (by rfl)
set_option maxRecDepth 20000 in
theorem ml_L_49 : Cond.methodLink RL 49 yX7_undo ∈ lw_T := T_w 517 (by decide +kernel) (by rfl)
set_option maxRecDepth 20000 in
theorem ml_X7_153 : Cond.methodLink RX7 153 yX0_takeBack ∈ lw_T := T_w 521 (by decide +kernel) (by rfl)
set_option maxRecDepth 20000 in
theorem ml_L_53 : Cond.methodLink RL 53 yX7_path ∈ lw_T := T_w 525 (by decide +kernel) (by rfl)
set_option maxRecDepth 20000 in
theorem ml_L_57 : Cond.methodLink RL 57 yX7_shortest ∈ lw_T := T_w 529 (by decide +kernel) (by rfl)
set_option maxRecDepth 20000 in
theorem ml_X7_174 : Cond.methodLink RX7 174 yX7_isState ∈ lw_T := T_w 533 (by decide +kernel) (by rfl)
set_option maxRecDepth 20000 in
theorem ml_L_61 : Cond.methodLink RL 61 yX7_parting ∈ lw_T := T_w 536 (by decide +kernel) (by rfl)
set_option maxRecDepth 20000 in
theorem ml_X7_186 : Cond.methodLink RX7 186 yJ6_bitCount_0f7a4 ∈ lw_T := T_w 540 (by decide +kernel) (by rfl)
set_option maxRecDepth 20000 in
theorem co_J6_265 : Cond.constant RJ6 265 (1431655765) ∈ lw_T := T_w 543 (by decide +kernel) (by rfl)
set_option maxRecDepth 20000 in
theorem co_J6_266 : Cond.constant RJ6 266 (858993459) ∈ lw_T := T_w 544 (by decide +kernel) (by rfl)
set_option maxRecDepth 20000 in
theorem co_J6_267 : Cond.constant RJ6 267 (252645135) ∈ lw_T := T_w 545 (by decide +kernel) (by rfl)
set_option maxRecDepth 20000 in
theorem ml_X7_191 : Cond.methodLink RX7 191 yX6_feedsWithout ∈ lw_T := T_w 546 (by decide +kernel) (by rfl)
set_option maxRecDepth 20000 in
theorem ml_X6_92 : Cond.methodLink RX6 92 yX6_spread ∈ lw_T := T_w 550 (by decide +kernel) (by rfl)
set_option maxRecDepth 20000 in
theorem ml_X6_95 : Cond.methodLink RX6 95 yX6_fed ∈ lw_T := T_w 551 (by decide +kernel) (by rfl)
set_option maxRecDepth 20000 in
theorem ml_L_65 : Cond.methodLink RL 65 yX7_enough ∈ lw_T := T_w 552 (by decide +kernel) (by rfl)
set_option maxRecDepth 20000 in
theorem ml_X7_195 : Cond.methodLink RX7 195 yX7_noteMissing ∈ lw_T := T_w 556 (by decide +kernel) (by rfl)
set_option maxRecDepth 20000 in
theorem ml_X7_198 : Cond.methodLink RX7 198 yX7_isEnough ∈ lw_T := T_w 560 (by decide +kernel) (by rfl)
set_option maxRecDepth 20000 in
theorem ml_X7_214 : Cond.methodLink RX7 214 yX6_layOne ∈ lw_T := T_w 564 (by decide +kernel) (by rfl)
set_option maxRecDepth 20000 in
theorem ml_L_69 : Cond.methodLink RL 69 yX7_flash ∈ lw_T := T_w 565 (by decide +kernel) (by rfl)
set_option maxRecDepth 20000 in
theorem ml_X7_201 : Cond.methodLink RX7 201 yX7_hasBit ∈ lw_T := T_w 569 (by decide +kernel) (by rfl)
set_option maxRecDepth 20000 in
theorem ml_L_73 : Cond.methodLink RL 73 yX7_odds ∈ lw_T := T_w 572 (by decide +kernel) (by rfl)
set_option maxRecDepth 20000 in
theorem ml_X7_205 : Cond.methodLink RX7 205 yX7_weight ∈ lw_T := T_w 576 (by decide +kernel) (by rfl)
set_option maxRecDepth 20000 in
theorem ml_X7_209 : Cond.methodLink RX7 209 yX7_commonDivisor ∈ lw_T := T_w 579 (by decide +kernel) (by rfl)
set_option maxRecDepth 20000 in
theorem ml_L_78 : Cond.methodLink RL 78 yX7_sees ∈ lw_T := T_w 582 (by decide +kernel) (by rfl)
set_option maxRecDepth 20000 in
theorem ml_X7_212 : Cond.methodLink RX7 212 yX3_append ∈ lw_T := T_w 586 (by decide +kernel) (by rfl)
set_option maxRecDepth 20000 in
theorem ml_L_82 : Cond.methodLink RL 82 yX7_forget ∈ lw_T := T_w 590 (by decide +kernel) (by rfl)
set_option maxRecDepth 20000 in
theorem ml_L_86 : Cond.methodLink RL 86 yX7_unseen ∈ lw_T := T_w 594 (by decide +kernel) (by rfl)
set_option maxRecDepth 20000 in
theorem ml_X7_221 : Cond.methodLink RX7 221 yX3_agrees ∈ lw_T := T_w 598 (by decide +kernel) (by rfl)
set_option maxRecDepth 20000 in
theorem ml_X3_25 : Cond.methodLink RX3 25 yX6_fed ∈ lw_T := T_w 602 (by decide +kernel) (by rfl)
set_option maxRecDepth 20000 in
theorem ml_L_90 : Cond.methodLink RL 90 yX7_keep ∈ lw_T := T_w 603 (by decide +kernel) (by rfl)
set_option maxRecDepth 20000 in
theorem ml_X7_225 : Cond.methodLink RX7 225 yX7_isImage ∈ lw_T := T_w 607 (by decide +kernel) (by rfl)
set_option maxRecDepth 20000 in
theorem ml_X7_228 : Cond.methodLink RX7 228 yX4_takeFrom ∈ lw_T := T_w 610 (by decide +kernel) (by rfl)
set_option maxRecDepth 20000 in
theorem ml_X4_27 : Cond.methodLink RX4 27 arraycopyName ∈ lw_T := T_w 614 (by decide +kernel) (by rfl)
set_option maxRecDepth 20000 in
theorem ml_L_94 : Cond.methodLink RL 94 yX7_back ∈ lw_T := T_w 615 (by decide +kernel) (by rfl)
set_option maxRecDepth 20000 in
theorem ml_L_98 : Cond.methodLink RL 98 yX7_count ∈ lw_T := T_w 619 (by decide +kernel) (by rfl)
set_option maxRecDepth 20000 in
theorem ml_X7_236 : Cond.methodLink RX7 236 yX7_loadsThatSneak ∈ lw_T := T_w 623 (by decide +kernel) (by rfl)
set_option maxRecDepth 20000 in
theorem ml_X7_239 : Cond.methodLink RX7 239 yX7_loadsThatMiss ∈ lw_T := T_w 627 (by decide +kernel) (by rfl)
set_option maxRecDepth 20000 in
theorem cl_L_10 : Cond.classLink RL 10 RX8 ∈ lw_T := T_w 631 (by decide +kernel) (by rfl)
set_option maxRecDepth 20000 in
theorem is_X8 : Cond.instantiable RX8 24 ∈ lw_T := T_w 632 (by decide +kernel) (by rfl)
set_option maxRecDepth 20000 in
theorem ml_L_12 : Cond.methodLink RL 12 yX8_init ∈ lw_T := T_w 633 (by decide +kernel) (by rfl)
set_option maxRecDepth 20000 in
theorem ml_X8_1 : Cond.methodLink RX8 1 objectInit ∈ lw_T := T_w 636 (by decide +kernel) (by rfl)
set_option maxRecDepth 20000 in
theorem ml_X8_53 : Cond.methodLink RX8 53 yX8_begins ∈ lw_T := T_w 637 (by decide +kernel) (by rfl)
set_option maxRecDepth 20000 in
theorem ml_X8_56 : Cond.methodLink RX8 56 yX8_settles ∈ lw_T := T_w 641 (by decide +kernel) (by rfl)
set_option maxRecDepth 20000 in
theorem ml_X8_121 : Cond.methodLink RX8 121 yX8_fedIn ∈ lw_T := T_w 645 (by decide +kernel) (by rfl)
set_option maxRecDepth 20000 in
theorem ml_X8_144 : Cond.methodLink RX8 144 yX8_isFed ∈ lw_T := T_w 649 (by decide +kernel) (by rfl)
set_option maxRecDepth 20000 in
theorem ml_X8_140 : Cond.methodLink RX8 140 yX8_live ∈ lw_T := T_w 653 (by decide +kernel) (by rfl)
set_option maxRecDepth 20000 in
theorem ml_X8_130 : Cond.methodLink RX8 130 yX8_has ∈ lw_T := T_w 657 (by decide +kernel) (by rfl)
set_option maxRecDepth 20000 in
theorem ml_X8_133 : Cond.methodLink RX8 133 yX8_isShut ∈ lw_T := T_w 660 (by decide +kernel) (by rfl)
set_option maxRecDepth 20000 in
theorem ml_X8_136 : Cond.methodLink RX8 136 yX8_isWay ∈ lw_T := T_w 664 (by decide +kernel) (by rfl)
set_option maxRecDepth 20000 in
theorem fl_X8_59 : Cond.fieldLink RX8 59 "SneakPathsModel" "thrown" "I" ∈ lw_T := T_w 668 (by decide +kernel) (by rfl)
set_option maxRecDepth 20000 in
theorem fl_X8_7 : Cond.fieldLink RX8 7 "SneakPathsModel" "text" "[I" ∈ lw_T := T_w 669 (by decide +kernel) (by rfl)
set_option maxRecDepth 20000 in
theorem fl_X8_67 : Cond.fieldLink RX8 67 "SneakPathsModel" "typed" "I" ∈ lw_T := T_w 670 (by decide +kernel) (by rfl)
set_option maxRecDepth 20000 in
theorem fl_X8_70 : Cond.fieldLink RX8 70 "SneakPathsModel" "spot" "I" ∈ lw_T := T_w 671 (by decide +kernel) (by rfl)
set_option maxRecDepth 20000 in
theorem fl_X8_80 : Cond.fieldLink RX8 80 "SneakPathsModel" "token" "I" ∈ lw_T := T_w 672 (by decide +kernel) (by rfl)
set_option maxRecDepth 20000 in
theorem fl_X8_77 : Cond.fieldLink RX8 77 "SneakPathsModel" "place" "I" ∈ lw_T := T_w 673 (by decide +kernel) (by rfl)
set_option maxRecDepth 20000 in
theorem fl_X8_83 : Cond.fieldLink RX8 83 "SneakPathsModel" "value" "I" ∈ lw_T := T_w 674 (by decide +kernel) (by rfl)
set_option maxRecDepth 20000 in
theorem fl_X8_90 : Cond.fieldLink RX8 90 "SneakPathsModel" "fault" "I" ∈ lw_T := T_w 675 (by decide +kernel) (by rfl)
set_option maxRecDepth 20000 in
theorem fl_X8_13 : Cond.fieldLink RX8 13 "SneakPathsModel" "told" "[I" ∈ lw_T := T_w 676 (by decide +kernel) (by rfl)
set_option maxRecDepth 20000 in
theorem fl_X8_16 : Cond.fieldLink RX8 16 "SneakPathsModel" "draft" "[I" ∈ lw_T := T_w 677 (by decide +kernel) (by rfl)
set_option maxRecDepth 20000 in
theorem fl_X8_19 : Cond.fieldLink RX8 19 "SneakPathsModel" "s" "[I" ∈ lw_T := T_w 678 (by decide +kernel) (by rfl)
set_option maxRecDepth 20000 in
theorem fl_X8_22 : Cond.fieldLink RX8 22 "SneakPathsModel" "undos" "[I" ∈ lw_T := T_w 679 (by decide +kernel) (by rfl)
set_option maxRecDepth 20000 in
theorem fl_X8_127 : Cond.fieldLink RX8 127 "SneakPathsModel" "undoMany" "I" ∈ lw_T := T_w 680 (by decide +kernel) (by rfl)
set_option maxRecDepth 20000 in
theorem fl_X8_25 : Cond.fieldLink RX8 25 "SneakPathsModel" "kept" "[I" ∈ lw_T := T_w 681 (by decide +kernel) (by rfl)
set_option maxRecDepth 20000 in
theorem fl_X8_28 : Cond.fieldLink RX8 28 "SneakPathsModel" "isKept" "[Z" ∈ lw_T := T_w 682 (by decide +kernel) (by rfl)
set_option maxRecDepth 20000 in
theorem fl_X8_32 : Cond.fieldLink RX8 32 "SneakPathsModel" "seenLoad" "[I" ∈ lw_T := T_w 683 (by decide +kernel) (by rfl)
set_option maxRecDepth 20000 in
theorem fl_X8_35 : Cond.fieldLink RX8 35 "SneakPathsModel" "seenState" "[I" ∈ lw_T := T_w 684 (by decide +kernel) (by rfl)
set_option maxRecDepth 20000 in
theorem fl_X8_38 : Cond.fieldLink RX8 38 "SneakPathsModel" "seenFed" "[I" ∈ lw_T := T_w 685 (by decide +kernel) (by rfl)
set_option maxRecDepth 20000 in
theorem fl_X8_124 : Cond.fieldLink RX8 124 "SneakPathsModel" "seenMany" "I" ∈ lw_T := T_w 686 (by decide +kernel) (by rfl)
set_option maxRecDepth 20000 in
theorem fl_X8_41 : Cond.fieldLink RX8 41 "SneakPathsModel" "step" "[I" ∈ lw_T := T_w 687 (by decide +kernel) (by rfl)
set_option maxRecDepth 20000 in
theorem fl_X8_44 : Cond.fieldLink RX8 44 "SneakPathsModel" "where" "[I" ∈ lw_T := T_w 688 (by decide +kernel) (by rfl)
set_option maxRecDepth 20000 in
theorem fl_X8_160 : Cond.fieldLink RX8 160 "SneakPathsModel" "steps" "I" ∈ lw_T := T_w 689 (by decide +kernel) (by rfl)
set_option maxRecDepth 20000 in
theorem fl_X8_47 : Cond.fieldLink RX8 47 "SneakPathsModel" "best" "[I" ∈ lw_T := T_w 690 (by decide +kernel) (by rfl)
set_option maxRecDepth 20000 in
theorem fl_X8_50 : Cond.fieldLink RX8 50 "SneakPathsModel" "missing" "[I" ∈ lw_T := T_w 691 (by decide +kernel) (by rfl)
set_option maxRecDepth 20000 in
theorem ml_L_17 : Cond.methodLink RL 17 yX8_type ∈ lw_T := T_w 741 (by decide +kernel) (by rfl)
set_option maxRecDepth 20000 in
theorem ml_X8_63 : Cond.methodLink RX8 63 yX8_in ∈ lw_T := T_w 745 (by decide +kernel) (by rfl)
set_option maxRecDepth 20000 in
theorem ml_L_22 : Cond.methodLink RL 22 yX8_clear ∈ lw_T := T_w 748 (by decide +kernel) (by rfl)
set_option maxRecDepth 20000 in
theorem ml_L_26 : Cond.methodLink RL 26 yX8_net ∈ lw_T := T_w 752 (by decide +kernel) (by rfl)
set_option maxRecDepth 20000 in
theorem ml_X8_97 : Cond.methodLink RX8 97 yX8_advances ∈ lw_T := T_w 756 (by decide +kernel) (by rfl)
set_option maxRecDepth 20000 in
theorem ml_X8_73 : Cond.methodLink RX8 73 yX8_letterAt ∈ lw_T := T_w 760 (by decide +kernel) (by rfl)
set_option maxRecDepth 20000 in
theorem ml_X8_86 : Cond.methodLink RX8 86 yX8_isLetter ∈ lw_T := T_w 764 (by decide +kernel) (by rfl)
set_option maxRecDepth 20000 in
theorem ml_X8_93 : Cond.methodLink RX8 93 yX8_isWell ∈ lw_T := T_w 767 (by decide +kernel) (by rfl)
set_option maxRecDepth 20000 in
theorem ml_X8_115 : Cond.methodLink RX8 115 yX8_mayBegin ∈ lw_T := T_w 771 (by decide +kernel) (by rfl)
set_option maxRecDepth 20000 in
theorem ml_X8_104 : Cond.methodLink RX8 104 yX8_takes ∈ lw_T := T_w 775 (by decide +kernel) (by rfl)
set_option maxRecDepth 20000 in
theorem ml_X8_118 : Cond.methodLink RX8 118 yX8_readsItem ∈ lw_T := T_w 779 (by decide +kernel) (by rfl)
set_option maxRecDepth 20000 in
theorem ml_X8_100 : Cond.methodLink RX8 100 yX8_isNumber ∈ lw_T := T_w 783 (by decide +kernel) (by rfl)
set_option maxRecDepth 20000 in
theorem ml_X8_108 : Cond.methodLink RX8 108 yX8_isFreeNode ∈ lw_T := T_w 787 (by decide +kernel) (by rfl)
set_option maxRecDepth 20000 in
theorem ml_X8_111 : Cond.methodLink RX8 111 yX8_readsContact ∈ lw_T := T_w 791 (by decide +kernel) (by rfl)
set_option maxRecDepth 20000 in
theorem ml_L_31 : Cond.methodLink RL 31 yX8_contact ∈ lw_T := T_w 795 (by decide +kernel) (by rfl)
set_option maxRecDepth 20000 in
theorem ml_X8_147 : Cond.methodLink RX8 147 yX8_isContact ∈ lw_T := T_w 799 (by decide +kernel) (by rfl)
set_option maxRecDepth 20000 in
theorem ml_L_35 : Cond.methodLink RL 35 yX8_load ∈ lw_T := T_w 803 (by decide +kernel) (by rfl)
set_option maxRecDepth 20000 in
theorem ml_X8_150 : Cond.methodLink RX8 150 yX8_isLoad ∈ lw_T := T_w 807 (by decide +kernel) (by rfl)
set_option maxRecDepth 20000 in
theorem ml_X8_153 : Cond.methodLink RX8 153 yX8_pathMany ∈ lw_T := T_w 811 (by decide +kernel) (by rfl)
set_option maxRecDepth 20000 in
theorem ml_X8_169 : Cond.methodLink RX8 169 yX8_beginsPath ∈ lw_T := T_w 815 (by decide +kernel) (by rfl)
set_option maxRecDepth 20000 in
theorem ml_X8_172 : Cond.methodLink RX8 172 yX8_nextPath ∈ lw_T := T_w 819 (by decide +kernel) (by rfl)
set_option maxRecDepth 20000 in
theorem ml_X8_163 : Cond.methodLink RX8 163 yX8_toBy ∈ lw_T := T_w 823 (by decide +kernel) (by rfl)
set_option maxRecDepth 20000 in
theorem ml_X8_166 : Cond.methodLink RX8 166 yX8_isOnPath ∈ lw_T := T_w 827 (by decide +kernel) (by rfl)
set_option maxRecDepth 20000 in
theorem ml_L_39 : Cond.methodLink RL 39 yX8_wishes ∈ lw_T := T_w 831 (by decide +kernel) (by rfl)
set_option maxRecDepth 20000 in
theorem co_X8_156 : Cond.constant RX8 156 (65535) ∈ lw_T := T_w 835 (by decide +kernel) (by rfl)
set_option maxRecDepth 20000 in
theorem ml_X8_157 : Cond.methodLink RX8 157 yX8_notes ∈ lw_T := T_w 836 (by decide +kernel) (by rfl)
set_option maxRecDepth 20000 in
theorem ml_L_44 : Cond.methodLink RL 44 yX8_cures ∈ lw_T := T_w 840 (by decide +kernel) (by rfl)
set_option maxRecDepth 20000 in
theorem ml_L_48 : Cond.methodLink RL 48 yX8_sticks ∈ lw_T := T_w 844 (by decide +kernel) (by rfl)
set_option maxRecDepth 20000 in
theorem ml_L_52 : Cond.methodLink RL 52 yX8_undo ∈ lw_T := T_w 848 (by decide +kernel) (by rfl)
set_option maxRecDepth 20000 in
theorem ml_L_56 : Cond.methodLink RL 56 yX8_path ∈ lw_T := T_w 852 (by decide +kernel) (by rfl)
set_option maxRecDepth 20000 in
theorem ml_X8_175 : Cond.methodLink RX8 175 yX8_shutIn ∈ lw_T := T_w 856 (by decide +kernel) (by rfl)
set_option maxRecDepth 20000 in
theorem ml_L_60 : Cond.methodLink RL 60 yX8_shortest ∈ lw_T := T_w 860 (by decide +kernel) (by rfl)
set_option maxRecDepth 20000 in
theorem ml_X8_179 : Cond.methodLink RX8 179 yX8_isState ∈ lw_T := T_w 864 (by decide +kernel) (by rfl)
set_option maxRecDepth 20000 in
theorem ml_L_64 : Cond.methodLink RL 64 yX8_parting ∈ lw_T := T_w 867 (by decide +kernel) (by rfl)
set_option maxRecDepth 20000 in
theorem ml_X8_182 : Cond.methodLink RX8 182 yX8_ones ∈ lw_T := T_w 871 (by decide +kernel) (by rfl)
set_option maxRecDepth 20000 in
theorem ml_L_68 : Cond.methodLink RL 68 yX8_enough ∈ lw_T := T_w 874 (by decide +kernel) (by rfl)
set_option maxRecDepth 20000 in
theorem ml_X8_185 : Cond.methodLink RX8 185 yX8_isEnough ∈ lw_T := T_w 878 (by decide +kernel) (by rfl)
set_option maxRecDepth 20000 in
theorem ml_L_72 : Cond.methodLink RL 72 yX8_flash ∈ lw_T := T_w 882 (by decide +kernel) (by rfl)
set_option maxRecDepth 20000 in
theorem ml_L_77 : Cond.methodLink RL 77 yX8_odds ∈ lw_T := T_w 886 (by decide +kernel) (by rfl)
set_option maxRecDepth 20000 in
theorem co_X8_189 : Cond.constantLong RX8 189 (10) ∈ lw_T := T_w 890 (by decide +kernel) (by rfl)
set_option maxRecDepth 20000 in
theorem ml_X8_191 : Cond.methodLink RX8 191 yX8_gcd ∈ lw_T := T_w 891 (by decide +kernel) (by rfl)
set_option maxRecDepth 20000 in
theorem ml_L_81 : Cond.methodLink RL 81 yX8_sees ∈ lw_T := T_w 894 (by decide +kernel) (by rfl)
set_option maxRecDepth 20000 in
theorem ml_L_85 : Cond.methodLink RL 85 yX8_forget ∈ lw_T := T_w 898 (by decide +kernel) (by rfl)
set_option maxRecDepth 20000 in
theorem ml_L_89 : Cond.methodLink RL 89 yX8_unseen ∈ lw_T := T_w 902 (by decide +kernel) (by rfl)
set_option maxRecDepth 20000 in
theorem ml_L_93 : Cond.methodLink RL 93 yX8_keep ∈ lw_T := T_w 906 (by decide +kernel) (by rfl)
set_option maxRecDepth 20000 in
theorem ml_L_97 : Cond.methodLink RL 97 yX8_back ∈ lw_T := T_w 910 (by decide +kernel) (by rfl)
set_option maxRecDepth 20000 in
theorem ml_L_101 : Cond.methodLink RL 101 yX8_count ∈ lw_T := T_w 914 (by decide +kernel) (by rfl)
set_option maxRecDepth 20000 in
theorem Y_X7_init : Yn yX7_init cX7_init 1 0 := ⟨T_w 64 (by rfl) (by rfl), T_w 63 (by decide +kernel) (by rfl), T_w 49 (by decide +kernel) (by rfl), rfl, ⟨by decide +kernel, by decide +kernel, by decide +kernel⟩⟩
set_option maxRecDepth 20000 in
theorem Y_X2_init : Yn yX2_init cX2_init 1 0 := ⟨T_w 72 (by rfl) (by rfl), T_w 71 (by decide +kernel) (by rfl), T_w 50 (by decide +kernel) (by rfl), rfl, ⟨by decide +kernel, by decide +kernel, by decide +kernel⟩⟩
set_option maxRecDepth 20000 in
theorem Y_X1_init : Yn yX1_init cX1_init 1 0 := ⟨T_w 78 (by rfl) (by rfl), T_w 77 (by decide +kernel) (by rfl), T_w 51 (by decide +kernel) (by rfl), rfl, ⟨by decide +kernel, by decide +kernel, by decide +kernel⟩⟩
set_option maxRecDepth 20000 in
theorem Y_X4_init : Yn yX4_init cX4_init 1 0 := ⟨T_w 153 (by rfl) (by rfl), T_w 152 (by decide +kernel) (by rfl), T_w 52 (by decide +kernel) (by rfl), rfl, ⟨by decide +kernel, by decide +kernel, by decide +kernel⟩⟩
set_option maxRecDepth 20000 in
theorem Y_X4_reset : Yv yX4_reset cX4_reset 2 (none) 0 := ⟨T_w 158 (by rfl) (by rfl), T_w 156 (by decide +kernel) (by rfl), T_w 157 (by decide +kernel) (by rfl), T_w 52 (by decide +kernel) (by rfl), ⟨by decide +kernel, by decide +kernel, by decide +kernel⟩⟩
set_option maxRecDepth 20000 in
theorem Y_X0_init : Yn yX0_init cX0_init 1 0 := ⟨T_w 187 (by rfl) (by rfl), T_w 186 (by decide +kernel) (by rfl), T_w 53 (by decide +kernel) (by rfl), rfl, ⟨by decide +kernel, by decide +kernel, by decide +kernel⟩⟩
set_option maxRecDepth 20000 in
theorem Y_X3_init : Yn yX3_init cX3_init 1 0 := ⟨T_w 210 (by rfl) (by rfl), T_w 209 (by decide +kernel) (by rfl), T_w 54 (by decide +kernel) (by rfl), rfl, ⟨by decide +kernel, by decide +kernel, by decide +kernel⟩⟩
set_option maxRecDepth 20000 in
theorem Y_X6_init : Yn yX6_init cX6_init 3 2 := ⟨T_w 230 (by rfl) (by rfl), T_w 229 (by decide +kernel) (by rfl), T_w 55 (by decide +kernel) (by rfl), rfl, ⟨by decide +kernel, by decide +kernel, by decide +kernel⟩⟩
set_option maxRecDepth 20000 in
theorem Y_X5_init : Yn yX5_init cX5_init 3 2 := ⟨T_w 260 (by rfl) (by rfl), T_w 259 (by decide +kernel) (by rfl), T_w 56 (by decide +kernel) (by rfl), rfl, ⟨by decide +kernel, by decide +kernel, by decide +kernel⟩⟩
set_option maxRecDepth 20000 in
theorem Y_X7_type : Yv yX7_type cX7_type 2 (some .int) 1 := ⟨T_w 340 (by rfl) (by rfl), T_w 338 (by decide +kernel) (by rfl), T_w 339 (by decide +kernel) (by rfl), T_w 49 (by decide +kernel) (by rfl), ⟨by decide +kernel, by decide +kernel, by decide +kernel⟩⟩
set_option maxRecDepth 20000 in
theorem Y_X2_append : Yv yX2_append cX2_append 2 (some .boolean) 1 := ⟨T_w 344 (by rfl) (by rfl), T_w 342 (by decide +kernel) (by rfl), T_w 343 (by decide +kernel) (by rfl), T_w 50 (by decide +kernel) (by rfl), ⟨by decide +kernel, by decide +kernel, by decide +kernel⟩⟩
set_option maxRecDepth 20000 in
theorem Y_X7_clear : Yv yX7_clear cX7_clear 2 (some .int) 0 := ⟨T_w 348 (by rfl) (by rfl), T_w 346 (by decide +kernel) (by rfl), T_w 347 (by decide +kernel) (by rfl), T_w 49 (by decide +kernel) (by rfl), ⟨by decide +kernel, by decide +kernel, by decide +kernel⟩⟩
set_option maxRecDepth 20000 in
theorem Y_X7_net : Yv yX7_net cX7_net 3 (some .int) 0 := ⟨T_w 352 (by rfl) (by rfl), T_w 350 (by decide +kernel) (by rfl), T_w 351 (by decide +kernel) (by rfl), T_w 49 (by decide +kernel) (by rfl), ⟨by decide +kernel, by decide +kernel, by decide +kernel⟩⟩
set_option maxRecDepth 20000 in
theorem Y_X2_read : Yv yX2_read cX2_read 2 (some .int) 0 := ⟨T_w 356 (by rfl) (by rfl), T_w 354 (by decide +kernel) (by rfl), T_w 355 (by decide +kernel) (by rfl), T_w 50 (by decide +kernel) (by rfl), ⟨by decide +kernel, by decide +kernel, by decide +kernel⟩⟩
set_option maxRecDepth 20000 in
theorem Y_X1_reset : Yv yX1_reset cX1_reset 1 (none) 0 := ⟨T_w 360 (by rfl) (by rfl), T_w 358 (by decide +kernel) (by rfl), T_w 359 (by decide +kernel) (by rfl), T_w 51 (by decide +kernel) (by rfl), ⟨by decide +kernel, by decide +kernel, by decide +kernel⟩⟩
set_option maxRecDepth 20000 in
theorem Y_X2_nextToken : Yv yX2_nextToken cX2_nextToken 2 (none) 0 := ⟨T_w 364 (by rfl) (by rfl), T_w 363 (by decide +kernel) (by rfl), T_w 0 (by decide +kernel) (by rfl), T_w 50 (by decide +kernel) (by rfl), ⟨by decide +kernel, by decide +kernel, by decide +kernel⟩⟩
set_option maxRecDepth 20000 in
theorem Y_X2_letterAt : Yv yX2_letterAt cX2_letterAt 2 (some .int) 1 := ⟨T_w 368 (by rfl) (by rfl), T_w 367 (by decide +kernel) (by rfl), T_w 1 (by decide +kernel) (by rfl), T_w 50 (by decide +kernel) (by rfl), ⟨by decide +kernel, by decide +kernel, by decide +kernel⟩⟩
set_option maxRecDepth 20000 in
theorem Y_X2_isDigit : Ys yX2_isDigit cX2_isDigit 1 (some .boolean) 1 := ⟨T_w 371 (by rfl) (by rfl), T_w 370 (by decide +kernel) (by rfl), T_w 50 (by decide +kernel) (by rfl), ⟨by decide +kernel, by decide +kernel, by decide +kernel⟩⟩
set_option maxRecDepth 20000 in
theorem Y_X2_readItem : Yv yX2_readItem cX2_readItem 2 (some .boolean) 1 := ⟨T_w 375 (by rfl) (by rfl), T_w 374 (by decide +kernel) (by rfl), T_w 2 (by decide +kernel) (by rfl), T_w 50 (by decide +kernel) (by rfl), ⟨by decide +kernel, by decide +kernel, by decide +kernel⟩⟩
set_option maxRecDepth 20000 in
theorem Y_X2_readNodes : Yv yX2_readNodes cX2_readNodes 2 (some .boolean) 0 := ⟨T_w 379 (by rfl) (by rfl), T_w 378 (by decide +kernel) (by rfl), T_w 3 (by decide +kernel) (by rfl), T_w 50 (by decide +kernel) (by rfl), ⟨by decide +kernel, by decide +kernel, by decide +kernel⟩⟩
set_option maxRecDepth 20000 in
theorem Y_X2_readNumber : Yv yX2_readNumber cX2_readNumber 4 (some .int) 2 := ⟨T_w 383 (by rfl) (by rfl), T_w 382 (by decide +kernel) (by rfl), T_w 4 (by decide +kernel) (by rfl), T_w 50 (by decide +kernel) (by rfl), ⟨by decide +kernel, by decide +kernel, by decide +kernel⟩⟩
set_option maxRecDepth 20000 in
theorem Y_X2_readSemicolon : Yv yX2_readSemicolon cX2_readSemicolon 1 (some .boolean) 0 := ⟨T_w 387 (by rfl) (by rfl), T_w 386 (by decide +kernel) (by rfl), T_w 5 (by decide +kernel) (by rfl), T_w 50 (by decide +kernel) (by rfl), ⟨by decide +kernel, by decide +kernel, by decide +kernel⟩⟩
set_option maxRecDepth 20000 in
theorem Y_X2_readContact : Yv yX2_readContact cX2_readContact 5 (some .boolean) 1 := ⟨T_w 391 (by rfl) (by rfl), T_w 390 (by decide +kernel) (by rfl), T_w 6 (by decide +kernel) (by rfl), T_w 50 (by decide +kernel) (by rfl), ⟨by decide +kernel, by decide +kernel, by decide +kernel⟩⟩
set_option maxRecDepth 20000 in
theorem Y_X1_addContact : Yv yX1_addContact cX1_addContact 5 (none) 4 := ⟨T_w 395 (by rfl) (by rfl), T_w 393 (by decide +kernel) (by rfl), T_w 394 (by decide +kernel) (by rfl), T_w 51 (by decide +kernel) (by rfl), ⟨by decide +kernel, by decide +kernel, by decide +kernel⟩⟩
set_option maxRecDepth 20000 in
theorem Y_X2_readLoad : Yv yX2_readLoad cX2_readLoad 2 (some .boolean) 0 := ⟨T_w 399 (by rfl) (by rfl), T_w 398 (by decide +kernel) (by rfl), T_w 7 (by decide +kernel) (by rfl), T_w 50 (by decide +kernel) (by rfl), ⟨by decide +kernel, by decide +kernel, by decide +kernel⟩⟩
set_option maxRecDepth 20000 in
theorem Y_X1_hasLoadAt : Yv yX1_hasLoadAt cX1_hasLoadAt 3 (some .boolean) 1 := ⟨T_w 403 (by rfl) (by rfl), T_w 401 (by decide +kernel) (by rfl), T_w 402 (by decide +kernel) (by rfl), T_w 51 (by decide +kernel) (by rfl), ⟨by decide +kernel, by decide +kernel, by decide +kernel⟩⟩
set_option maxRecDepth 20000 in
theorem Y_X1_addLoad : Yv yX1_addLoad cX1_addLoad 2 (none) 1 := ⟨T_w 407 (by rfl) (by rfl), T_w 405 (by decide +kernel) (by rfl), T_w 406 (by decide +kernel) (by rfl), T_w 51 (by decide +kernel) (by rfl), ⟨by decide +kernel, by decide +kernel, by decide +kernel⟩⟩
set_option maxRecDepth 20000 in
theorem Y_X1_takeFrom : Yv yX1_takeFrom cX1_takeFrom 2 (none) 1 := ⟨T_w 411 (by rfl) (by rfl), T_w 409 (by decide +kernel) (by rfl), T_w 410 (by decide +kernel) (by rfl), T_w 51 (by decide +kernel) (by rfl), ⟨by decide +kernel, by decide +kernel, by decide +kernel⟩⟩
set_option maxRecDepth 20000 in
theorem Y_X7_wishWhatIsFed : Yv yX7_wishWhatIsFed cX7_wishWhatIsFed 2 (none) 0 := ⟨T_w 419 (by rfl) (by rfl), T_w 418 (by decide +kernel) (by rfl), T_w 8 (by decide +kernel) (by rfl), T_w 49 (by decide +kernel) (by rfl), ⟨by decide +kernel, by decide +kernel, by decide +kernel⟩⟩
set_option maxRecDepth 20000 in
theorem Y_X6_layAll : Yv yX6_layAll cX6_layAll 2 (none) 0 := ⟨T_w 423 (by rfl) (by rfl), T_w 421 (by decide +kernel) (by rfl), T_w 422 (by decide +kernel) (by rfl), T_w 55 (by decide +kernel) (by rfl), ⟨by decide +kernel, by decide +kernel, by decide +kernel⟩⟩
set_option maxRecDepth 20000 in
theorem Y_X6_layOne : Yv yX6_layOne cX6_layOne 6 (none) 4 := ⟨T_w 427 (by rfl) (by rfl), T_w 425 (by decide +kernel) (by rfl), T_w 426 (by decide +kernel) (by rfl), T_w 55 (by decide +kernel) (by rfl), ⟨by decide +kernel, by decide +kernel, by decide +kernel⟩⟩
set_option maxRecDepth 20000 in
theorem Y_X6_shutBy : Ys yX6_shutBy cX6_shutBy 3 (some .int) 2 := ⟨T_w 431 (by rfl) (by rfl), T_w 430 (by decide +kernel) (by rfl), T_w 55 (by decide +kernel) (by rfl), ⟨by decide +kernel, by decide +kernel, by decide +kernel⟩⟩
set_option maxRecDepth 20000 in
theorem Y_X6_spread : Yv yX6_spread cX6_spread 4 (none) 1 := ⟨T_w 437 (by rfl) (by rfl), T_w 435 (by decide +kernel) (by rfl), T_w 436 (by decide +kernel) (by rfl), T_w 55 (by decide +kernel) (by rfl), ⟨by decide +kernel, by decide +kernel, by decide +kernel⟩⟩
set_option maxRecDepth 20000 in
theorem Y_X6_spreadOver : Yv yX6_spreadOver cX6_spreadOver 4 (none) 1 := ⟨T_w 441 (by rfl) (by rfl), T_w 440 (by decide +kernel) (by rfl), T_w 9 (by decide +kernel) (by rfl), T_w 55 (by decide +kernel) (by rfl), ⟨by decide +kernel, by decide +kernel, by decide +kernel⟩⟩
set_option maxRecDepth 20000 in
theorem Y_X6_flow : Yv yX6_flow cX6_flow 5 (none) 3 := ⟨T_w 445 (by rfl) (by rfl), T_w 444 (by decide +kernel) (by rfl), T_w 10 (by decide +kernel) (by rfl), T_w 55 (by decide +kernel) (by rfl), ⟨by decide +kernel, by decide +kernel, by decide +kernel⟩⟩
set_option maxRecDepth 20000 in
theorem Y_X6_fed : Yv yX6_fed cX6_fed 2 (some .int) 1 := ⟨T_w 449 (by rfl) (by rfl), T_w 447 (by decide +kernel) (by rfl), T_w 448 (by decide +kernel) (by rfl), T_w 55 (by decide +kernel) (by rfl), ⟨by decide +kernel, by decide +kernel, by decide +kernel⟩⟩
set_option maxRecDepth 20000 in
theorem Y_X7_contact : Yv yX7_contact cX7_contact 3 (some .int) 2 := ⟨T_w 453 (by rfl) (by rfl), T_w 451 (by decide +kernel) (by rfl), T_w 452 (by decide +kernel) (by rfl), T_w 49 (by decide +kernel) (by rfl), ⟨by decide +kernel, by decide +kernel, by decide +kernel⟩⟩
set_option maxRecDepth 20000 in
theorem Y_X7_isContact : Yv yX7_isContact cX7_isContact 2 (some .boolean) 1 := ⟨T_w 457 (by rfl) (by rfl), T_w 456 (by decide +kernel) (by rfl), T_w 11 (by decide +kernel) (by rfl), T_w 49 (by decide +kernel) (by rfl), ⟨by decide +kernel, by decide +kernel, by decide +kernel⟩⟩
set_option maxRecDepth 20000 in
theorem Y_X7_load : Yv yX7_load cX7_load 3 (some .int) 2 := ⟨T_w 461 (by rfl) (by rfl), T_w 459 (by decide +kernel) (by rfl), T_w 460 (by decide +kernel) (by rfl), T_w 49 (by decide +kernel) (by rfl), ⟨by decide +kernel, by decide +kernel, by decide +kernel⟩⟩
set_option maxRecDepth 20000 in
theorem Y_X7_isLoad : Yv yX7_isLoad cX7_isLoad 2 (some .boolean) 1 := ⟨T_w 465 (by rfl) (by rfl), T_w 464 (by decide +kernel) (by rfl), T_w 12 (by decide +kernel) (by rfl), T_w 49 (by decide +kernel) (by rfl), ⟨by decide +kernel, by decide +kernel, by decide +kernel⟩⟩
set_option maxRecDepth 20000 in
theorem Y_X7_fedNow : Yv yX7_fedNow cX7_fedNow 2 (some .int) 1 := ⟨T_w 469 (by rfl) (by rfl), T_w 468 (by decide +kernel) (by rfl), T_w 13 (by decide +kernel) (by rfl), T_w 49 (by decide +kernel) (by rfl), ⟨by decide +kernel, by decide +kernel, by decide +kernel⟩⟩
set_option maxRecDepth 20000 in
theorem Y_X7_howManyPaths : Yv yX7_howManyPaths cX7_howManyPaths 2 (some .int) 1 := ⟨T_w 473 (by rfl) (by rfl), T_w 472 (by decide +kernel) (by rfl), T_w 14 (by decide +kernel) (by rfl), T_w 49 (by decide +kernel) (by rfl), ⟨by decide +kernel, by decide +kernel, by decide +kernel⟩⟩
set_option maxRecDepth 20000 in
theorem Y_X5_run : Yv yX5_run cX5_run 4 (none) 3 := ⟨T_w 477 (by rfl) (by rfl), T_w 475 (by decide +kernel) (by rfl), T_w 476 (by decide +kernel) (by rfl), T_w 56 (by decide +kernel) (by rfl), ⟨by decide +kernel, by decide +kernel, by decide +kernel⟩⟩
set_option maxRecDepth 20000 in
theorem Y_X5_goOn : Yv yX5_goOn cX5_goOn 8 (none) 5 := ⟨T_w 482 (by rfl) (by rfl), T_w 481 (by decide +kernel) (by rfl), T_w 15 (by decide +kernel) (by rfl), T_w 56 (by decide +kernel) (by rfl), ⟨by decide +kernel, by decide +kernel, by decide +kernel⟩⟩
set_option maxRecDepth 20000 in
theorem Y_X5_arrive : Yv yX5_arrive cX5_arrive 4 (none) 3 := ⟨T_w 486 (by rfl) (by rfl), T_w 485 (by decide +kernel) (by rfl), T_w 16 (by decide +kernel) (by rfl), T_w 56 (by decide +kernel) (by rfl), ⟨by decide +kernel, by decide +kernel, by decide +kernel⟩⟩
set_option maxRecDepth 20000 in
theorem Y_X6_nodeBehind : Yv yX6_nodeBehind cX6_nodeBehind 3 (some .int) 2 := ⟨T_w 491 (by rfl) (by rfl), T_w 489 (by decide +kernel) (by rfl), T_w 490 (by decide +kernel) (by rfl), T_w 55 (by decide +kernel) (by rfl), ⟨by decide +kernel, by decide +kernel, by decide +kernel⟩⟩
set_option maxRecDepth 20000 in
theorem Y_X7_wishes : Yv yX7_wishes cX7_wishes 4 (some .int) 2 := ⟨T_w 495 (by rfl) (by rfl), T_w 493 (by decide +kernel) (by rfl), T_w 494 (by decide +kernel) (by rfl), T_w 49 (by decide +kernel) (by rfl), ⟨by decide +kernel, by decide +kernel, by decide +kernel⟩⟩
set_option maxRecDepth 20000 in
theorem Y_X0_note : Yv yX0_note cX0_note 5 (none) 4 := ⟨T_w 500 (by rfl) (by rfl), T_w 498 (by decide +kernel) (by rfl), T_w 499 (by decide +kernel) (by rfl), T_w 53 (by decide +kernel) (by rfl), ⟨by decide +kernel, by decide +kernel, by decide +kernel⟩⟩
set_option maxRecDepth 20000 in
theorem Y_X0_dropOldest : Yv yX0_dropOldest cX0_dropOldest 2 (none) 0 := ⟨T_w 504 (by rfl) (by rfl), T_w 503 (by decide +kernel) (by rfl), T_w 17 (by decide +kernel) (by rfl), T_w 53 (by decide +kernel) (by rfl), ⟨by decide +kernel, by decide +kernel, by decide +kernel⟩⟩
set_option maxRecDepth 20000 in
theorem Y_X7_cures : Yv yX7_cures cX7_cures 6 (some .int) 3 := ⟨T_w 509 (by rfl) (by rfl), T_w 507 (by decide +kernel) (by rfl), T_w 508 (by decide +kernel) (by rfl), T_w 49 (by decide +kernel) (by rfl), ⟨by decide +kernel, by decide +kernel, by decide +kernel⟩⟩
set_option maxRecDepth 20000 in
theorem Y_X7_choicesOfSwitch : Ys yX7_choicesOfSwitch cX7_choicesOfSwitch 1 (some .int) 1 := ⟨T_w 512 (by rfl) (by rfl), T_w 511 (by decide +kernel) (by rfl), T_w 49 (by decide +kernel) (by rfl), ⟨by decide +kernel, by decide +kernel, by decide +kernel⟩⟩
set_option maxRecDepth 20000 in
theorem Y_X7_sticks : Yv yX7_sticks cX7_sticks 4 (some .int) 2 := ⟨T_w 516 (by rfl) (by rfl), T_w 514 (by decide +kernel) (by rfl), T_w 515 (by decide +kernel) (by rfl), T_w 49 (by decide +kernel) (by rfl), ⟨by decide +kernel, by decide +kernel, by decide +kernel⟩⟩
set_option maxRecDepth 20000 in
theorem Y_X7_undo : Yv yX7_undo cX7_undo 1 (some .int) 0 := ⟨T_w 520 (by rfl) (by rfl), T_w 518 (by decide +kernel) (by rfl), T_w 519 (by decide +kernel) (by rfl), T_w 49 (by decide +kernel) (by rfl), ⟨by decide +kernel, by decide +kernel, by decide +kernel⟩⟩
set_option maxRecDepth 20000 in
theorem Y_X0_takeBack : Yv yX0_takeBack cX0_takeBack 3 (none) 1 := ⟨T_w 524 (by rfl) (by rfl), T_w 522 (by decide +kernel) (by rfl), T_w 523 (by decide +kernel) (by rfl), T_w 53 (by decide +kernel) (by rfl), ⟨by decide +kernel, by decide +kernel, by decide +kernel⟩⟩
set_option maxRecDepth 20000 in
theorem Y_X7_path : Yv yX7_path cX7_path 4 (some .int) 3 := ⟨T_w 528 (by rfl) (by rfl), T_w 526 (by decide +kernel) (by rfl), T_w 527 (by decide +kernel) (by rfl), T_w 49 (by decide +kernel) (by rfl), ⟨by decide +kernel, by decide +kernel, by decide +kernel⟩⟩
set_option maxRecDepth 20000 in
theorem Y_X7_shortest : Yv yX7_shortest cX7_shortest 4 (some .int) 3 := ⟨T_w 532 (by rfl) (by rfl), T_w 530 (by decide +kernel) (by rfl), T_w 531 (by decide +kernel) (by rfl), T_w 49 (by decide +kernel) (by rfl), ⟨by decide +kernel, by decide +kernel, by decide +kernel⟩⟩
set_option maxRecDepth 20000 in
theorem Y_X7_isState : Ys yX7_isState cX7_isState 1 (some .boolean) 1 := ⟨T_w 535 (by rfl) (by rfl), T_w 534 (by decide +kernel) (by rfl), T_w 49 (by decide +kernel) (by rfl), ⟨by decide +kernel, by decide +kernel, by decide +kernel⟩⟩
set_option maxRecDepth 20000 in
theorem Y_X7_parting : Yv yX7_parting cX7_parting 8 (some .int) 2 := ⟨T_w 539 (by rfl) (by rfl), T_w 537 (by decide +kernel) (by rfl), T_w 538 (by decide +kernel) (by rfl), T_w 49 (by decide +kernel) (by rfl), ⟨by decide +kernel, by decide +kernel, by decide +kernel⟩⟩
set_option maxRecDepth 20000 in
theorem Y_J6_bitCount_0f7a4 : Ys yJ6_bitCount_0f7a4 cJ6_bitCount_0f7a4 1 (some .int) 1 := ⟨T_w 542 (by rfl) (by rfl), T_w 541 (by decide +kernel) (by rfl), T_w 59 (by decide +kernel) (by rfl), ⟨by decide +kernel, by decide +kernel, by decide +kernel⟩⟩
set_option maxRecDepth 20000 in
theorem Y_X6_feedsWithout : Yv yX6_feedsWithout cX6_feedsWithout 4 (some .boolean) 3 := ⟨T_w 549 (by rfl) (by rfl), T_w 547 (by decide +kernel) (by rfl), T_w 548 (by decide +kernel) (by rfl), T_w 55 (by decide +kernel) (by rfl), ⟨by decide +kernel, by decide +kernel, by decide +kernel⟩⟩
set_option maxRecDepth 20000 in
theorem Y_X7_enough : Yv yX7_enough cX7_enough 7 (some .int) 1 := ⟨T_w 555 (by rfl) (by rfl), T_w 553 (by decide +kernel) (by rfl), T_w 554 (by decide +kernel) (by rfl), T_w 49 (by decide +kernel) (by rfl), ⟨by decide +kernel, by decide +kernel, by decide +kernel⟩⟩
set_option maxRecDepth 20000 in
theorem Y_X7_noteMissing : Yv yX7_noteMissing cX7_noteMissing 2 (none) 0 := ⟨T_w 559 (by rfl) (by rfl), T_w 558 (by decide +kernel) (by rfl), T_w 18 (by decide +kernel) (by rfl), T_w 49 (by decide +kernel) (by rfl), ⟨by decide +kernel, by decide +kernel, by decide +kernel⟩⟩
set_option maxRecDepth 20000 in
theorem Y_X7_isEnough : Yv yX7_isEnough cX7_isEnough 9 (some .boolean) 3 := ⟨T_w 563 (by rfl) (by rfl), T_w 562 (by decide +kernel) (by rfl), T_w 19 (by decide +kernel) (by rfl), T_w 49 (by decide +kernel) (by rfl), ⟨by decide +kernel, by decide +kernel, by decide +kernel⟩⟩
set_option maxRecDepth 20000 in
theorem Y_X7_flash : Yv yX7_flash cX7_flash 8 (some .int) 3 := ⟨T_w 568 (by rfl) (by rfl), T_w 566 (by decide +kernel) (by rfl), T_w 567 (by decide +kernel) (by rfl), T_w 49 (by decide +kernel) (by rfl), ⟨by decide +kernel, by decide +kernel, by decide +kernel⟩⟩
set_option maxRecDepth 20000 in
theorem Y_X7_hasBit : Ys yX7_hasBit cX7_hasBit 2 (some .boolean) 2 := ⟨T_w 571 (by rfl) (by rfl), T_w 570 (by decide +kernel) (by rfl), T_w 49 (by decide +kernel) (by rfl), ⟨by decide +kernel, by decide +kernel, by decide +kernel⟩⟩
set_option maxRecDepth 20000 in
theorem Y_X7_odds : Yv yX7_odds cX7_odds 9 (some .int) 4 := ⟨T_w 575 (by rfl) (by rfl), T_w 573 (by decide +kernel) (by rfl), T_w 574 (by decide +kernel) (by rfl), T_w 49 (by decide +kernel) (by rfl), ⟨by decide +kernel, by decide +kernel, by decide +kernel⟩⟩
set_option maxRecDepth 20000 in
theorem Y_X7_weight : Ys yX7_weight cX7_weight 4 (some .int) 2 := ⟨T_w 578 (by rfl) (by rfl), T_w 577 (by decide +kernel) (by rfl), T_w 49 (by decide +kernel) (by rfl), ⟨by decide +kernel, by decide +kernel, by decide +kernel⟩⟩
set_option maxRecDepth 20000 in
theorem Y_X7_commonDivisor : Ys yX7_commonDivisor cX7_commonDivisor 6 (some .int) 2 := ⟨T_w 581 (by rfl) (by rfl), T_w 580 (by decide +kernel) (by rfl), T_w 49 (by decide +kernel) (by rfl), ⟨by decide +kernel, by decide +kernel, by decide +kernel⟩⟩
set_option maxRecDepth 20000 in
theorem Y_X7_sees : Yv yX7_sees cX7_sees 4 (some .int) 3 := ⟨T_w 585 (by rfl) (by rfl), T_w 583 (by decide +kernel) (by rfl), T_w 584 (by decide +kernel) (by rfl), T_w 49 (by decide +kernel) (by rfl), ⟨by decide +kernel, by decide +kernel, by decide +kernel⟩⟩
set_option maxRecDepth 20000 in
theorem Y_X3_append : Yv yX3_append cX3_append 4 (some .boolean) 3 := ⟨T_w 589 (by rfl) (by rfl), T_w 587 (by decide +kernel) (by rfl), T_w 588 (by decide +kernel) (by rfl), T_w 54 (by decide +kernel) (by rfl), ⟨by decide +kernel, by decide +kernel, by decide +kernel⟩⟩
set_option maxRecDepth 20000 in
theorem Y_X7_forget : Yv yX7_forget cX7_forget 2 (some .int) 0 := ⟨T_w 593 (by rfl) (by rfl), T_w 591 (by decide +kernel) (by rfl), T_w 592 (by decide +kernel) (by rfl), T_w 49 (by decide +kernel) (by rfl), ⟨by decide +kernel, by decide +kernel, by decide +kernel⟩⟩
set_option maxRecDepth 20000 in
theorem Y_X7_unseen : Yv yX7_unseen cX7_unseen 4 (some .int) 1 := ⟨T_w 597 (by rfl) (by rfl), T_w 595 (by decide +kernel) (by rfl), T_w 596 (by decide +kernel) (by rfl), T_w 49 (by decide +kernel) (by rfl), ⟨by decide +kernel, by decide +kernel, by decide +kernel⟩⟩
set_option maxRecDepth 20000 in
theorem Y_X3_agrees : Yv yX3_agrees cX3_agrees 3 (some .boolean) 1 := ⟨T_w 601 (by rfl) (by rfl), T_w 599 (by decide +kernel) (by rfl), T_w 600 (by decide +kernel) (by rfl), T_w 54 (by decide +kernel) (by rfl), ⟨by decide +kernel, by decide +kernel, by decide +kernel⟩⟩
set_option maxRecDepth 20000 in
theorem Y_X7_keep : Yv yX7_keep cX7_keep 2 (some .int) 1 := ⟨T_w 606 (by rfl) (by rfl), T_w 604 (by decide +kernel) (by rfl), T_w 605 (by decide +kernel) (by rfl), T_w 49 (by decide +kernel) (by rfl), ⟨by decide +kernel, by decide +kernel, by decide +kernel⟩⟩
set_option maxRecDepth 20000 in
theorem Y_X7_isImage : Ys yX7_isImage cX7_isImage 1 (some .boolean) 1 := ⟨T_w 609 (by rfl) (by rfl), T_w 608 (by decide +kernel) (by rfl), T_w 49 (by decide +kernel) (by rfl), ⟨by decide +kernel, by decide +kernel, by decide +kernel⟩⟩
set_option maxRecDepth 20000 in
theorem Y_X4_takeFrom : Yv yX4_takeFrom cX4_takeFrom 2 (none) 1 := ⟨T_w 613 (by rfl) (by rfl), T_w 611 (by decide +kernel) (by rfl), T_w 612 (by decide +kernel) (by rfl), T_w 52 (by decide +kernel) (by rfl), ⟨by decide +kernel, by decide +kernel, by decide +kernel⟩⟩
set_option maxRecDepth 20000 in
theorem Y_X7_back : Yv yX7_back cX7_back 2 (some .int) 1 := ⟨T_w 618 (by rfl) (by rfl), T_w 616 (by decide +kernel) (by rfl), T_w 617 (by decide +kernel) (by rfl), T_w 49 (by decide +kernel) (by rfl), ⟨by decide +kernel, by decide +kernel, by decide +kernel⟩⟩
set_option maxRecDepth 20000 in
theorem Y_X7_count : Yv yX7_count cX7_count 2 (some .int) 1 := ⟨T_w 622 (by rfl) (by rfl), T_w 620 (by decide +kernel) (by rfl), T_w 621 (by decide +kernel) (by rfl), T_w 49 (by decide +kernel) (by rfl), ⟨by decide +kernel, by decide +kernel, by decide +kernel⟩⟩
set_option maxRecDepth 20000 in
theorem Y_X7_loadsThatSneak : Yv yX7_loadsThatSneak cX7_loadsThatSneak 3 (some .int) 0 := ⟨T_w 626 (by rfl) (by rfl), T_w 625 (by decide +kernel) (by rfl), T_w 20 (by decide +kernel) (by rfl), T_w 49 (by decide +kernel) (by rfl), ⟨by decide +kernel, by decide +kernel, by decide +kernel⟩⟩
set_option maxRecDepth 20000 in
theorem Y_X7_loadsThatMiss : Yv yX7_loadsThatMiss cX7_loadsThatMiss 3 (some .int) 0 := ⟨T_w 630 (by rfl) (by rfl), T_w 629 (by decide +kernel) (by rfl), T_w 21 (by decide +kernel) (by rfl), T_w 49 (by decide +kernel) (by rfl), ⟨by decide +kernel, by decide +kernel, by decide +kernel⟩⟩
set_option maxRecDepth 20000 in
theorem Y_X8_init : Yn yX8_init cX8_init 1 0 := ⟨T_w 635 (by rfl) (by rfl), T_w 634 (by decide +kernel) (by rfl), T_w 57 (by decide +kernel) (by rfl), rfl, ⟨by decide +kernel, by decide +kernel, by decide +kernel⟩⟩
set_option maxRecDepth 20000 in
theorem Y_X8_begins : Yv yX8_begins cX8_begins 2 (none) 0 := ⟨T_w 640 (by rfl) (by rfl), T_w 639 (by decide +kernel) (by rfl), T_w 22 (by decide +kernel) (by rfl), T_w 57 (by decide +kernel) (by rfl), ⟨by decide +kernel, by decide +kernel, by decide +kernel⟩⟩
set_option maxRecDepth 20000 in
theorem Y_X8_settles : Yv yX8_settles cX8_settles 2 (none) 0 := ⟨T_w 644 (by rfl) (by rfl), T_w 643 (by decide +kernel) (by rfl), T_w 23 (by decide +kernel) (by rfl), T_w 57 (by decide +kernel) (by rfl), ⟨by decide +kernel, by decide +kernel, by decide +kernel⟩⟩
set_option maxRecDepth 20000 in
theorem Y_X8_fedIn : Yv yX8_fedIn cX8_fedIn 4 (some .int) 1 := ⟨T_w 648 (by rfl) (by rfl), T_w 647 (by decide +kernel) (by rfl), T_w 24 (by decide +kernel) (by rfl), T_w 57 (by decide +kernel) (by rfl), ⟨by decide +kernel, by decide +kernel, by decide +kernel⟩⟩
set_option maxRecDepth 20000 in
theorem Y_X8_isFed : Yv yX8_isFed cX8_isFed 4 (some .boolean) 3 := ⟨T_w 652 (by rfl) (by rfl), T_w 651 (by decide +kernel) (by rfl), T_w 25 (by decide +kernel) (by rfl), T_w 57 (by decide +kernel) (by rfl), ⟨by decide +kernel, by decide +kernel, by decide +kernel⟩⟩
set_option maxRecDepth 20000 in
theorem Y_X8_live : Yv yX8_live cX8_live 8 (some .int) 2 := ⟨T_w 656 (by rfl) (by rfl), T_w 655 (by decide +kernel) (by rfl), T_w 26 (by decide +kernel) (by rfl), T_w 57 (by decide +kernel) (by rfl), ⟨by decide +kernel, by decide +kernel, by decide +kernel⟩⟩
set_option maxRecDepth 20000 in
theorem Y_X8_has : Ys yX8_has cX8_has 2 (some .boolean) 2 := ⟨T_w 659 (by rfl) (by rfl), T_w 658 (by decide +kernel) (by rfl), T_w 57 (by decide +kernel) (by rfl), ⟨by decide +kernel, by decide +kernel, by decide +kernel⟩⟩
set_option maxRecDepth 20000 in
theorem Y_X8_isShut : Yv yX8_isShut cX8_isShut 6 (some .boolean) 2 := ⟨T_w 663 (by rfl) (by rfl), T_w 662 (by decide +kernel) (by rfl), T_w 27 (by decide +kernel) (by rfl), T_w 57 (by decide +kernel) (by rfl), ⟨by decide +kernel, by decide +kernel, by decide +kernel⟩⟩
set_option maxRecDepth 20000 in
theorem Y_X8_isWay : Yv yX8_isWay cX8_isWay 3 (some .boolean) 2 := ⟨T_w 667 (by rfl) (by rfl), T_w 666 (by decide +kernel) (by rfl), T_w 28 (by decide +kernel) (by rfl), T_w 57 (by decide +kernel) (by rfl), ⟨by decide +kernel, by decide +kernel, by decide +kernel⟩⟩
set_option maxRecDepth 20000 in
theorem Y_X8_type : Yv yX8_type cX8_type 2 (some .int) 1 := ⟨T_w 744 (by rfl) (by rfl), T_w 742 (by decide +kernel) (by rfl), T_w 743 (by decide +kernel) (by rfl), T_w 57 (by decide +kernel) (by rfl), ⟨by decide +kernel, by decide +kernel, by decide +kernel⟩⟩
set_option maxRecDepth 20000 in
theorem Y_X8_in : Ys yX8_in cX8_in 3 (some .boolean) 3 := ⟨T_w 747 (by rfl) (by rfl), T_w 746 (by decide +kernel) (by rfl), T_w 57 (by decide +kernel) (by rfl), ⟨by decide +kernel, by decide +kernel, by decide +kernel⟩⟩
set_option maxRecDepth 20000 in
theorem Y_X8_clear : Yv yX8_clear cX8_clear 2 (some .int) 0 := ⟨T_w 751 (by rfl) (by rfl), T_w 749 (by decide +kernel) (by rfl), T_w 750 (by decide +kernel) (by rfl), T_w 57 (by decide +kernel) (by rfl), ⟨by decide +kernel, by decide +kernel, by decide +kernel⟩⟩
set_option maxRecDepth 20000 in
theorem Y_X8_net : Yv yX8_net cX8_net 3 (some .int) 0 := ⟨T_w 755 (by rfl) (by rfl), T_w 753 (by decide +kernel) (by rfl), T_w 754 (by decide +kernel) (by rfl), T_w 57 (by decide +kernel) (by rfl), ⟨by decide +kernel, by decide +kernel, by decide +kernel⟩⟩
set_option maxRecDepth 20000 in
theorem Y_X8_advances : Yv yX8_advances cX8_advances 2 (none) 0 := ⟨T_w 759 (by rfl) (by rfl), T_w 758 (by decide +kernel) (by rfl), T_w 29 (by decide +kernel) (by rfl), T_w 57 (by decide +kernel) (by rfl), ⟨by decide +kernel, by decide +kernel, by decide +kernel⟩⟩
set_option maxRecDepth 20000 in
theorem Y_X8_letterAt : Yv yX8_letterAt cX8_letterAt 2 (some .int) 1 := ⟨T_w 763 (by rfl) (by rfl), T_w 762 (by decide +kernel) (by rfl), T_w 30 (by decide +kernel) (by rfl), T_w 57 (by decide +kernel) (by rfl), ⟨by decide +kernel, by decide +kernel, by decide +kernel⟩⟩
set_option maxRecDepth 20000 in
theorem Y_X8_isLetter : Ys yX8_isLetter cX8_isLetter 1 (some .boolean) 1 := ⟨T_w 766 (by rfl) (by rfl), T_w 765 (by decide +kernel) (by rfl), T_w 57 (by decide +kernel) (by rfl), ⟨by decide +kernel, by decide +kernel, by decide +kernel⟩⟩
set_option maxRecDepth 20000 in
theorem Y_X8_isWell : Yv yX8_isWell cX8_isWell 1 (some .boolean) 0 := ⟨T_w 770 (by rfl) (by rfl), T_w 769 (by decide +kernel) (by rfl), T_w 31 (by decide +kernel) (by rfl), T_w 57 (by decide +kernel) (by rfl), ⟨by decide +kernel, by decide +kernel, by decide +kernel⟩⟩
set_option maxRecDepth 20000 in
theorem Y_X8_mayBegin : Yv yX8_mayBegin cX8_mayBegin 2 (some .boolean) 1 := ⟨T_w 774 (by rfl) (by rfl), T_w 773 (by decide +kernel) (by rfl), T_w 32 (by decide +kernel) (by rfl), T_w 57 (by decide +kernel) (by rfl), ⟨by decide +kernel, by decide +kernel, by decide +kernel⟩⟩
set_option maxRecDepth 20000 in
theorem Y_X8_takes : Yv yX8_takes cX8_takes 3 (some .int) 1 := ⟨T_w 778 (by rfl) (by rfl), T_w 777 (by decide +kernel) (by rfl), T_w 33 (by decide +kernel) (by rfl), T_w 57 (by decide +kernel) (by rfl), ⟨by decide +kernel, by decide +kernel, by decide +kernel⟩⟩
set_option maxRecDepth 20000 in
theorem Y_X8_readsItem : Yv yX8_readsItem cX8_readsItem 2 (none) 1 := ⟨T_w 782 (by rfl) (by rfl), T_w 781 (by decide +kernel) (by rfl), T_w 34 (by decide +kernel) (by rfl), T_w 57 (by decide +kernel) (by rfl), ⟨by decide +kernel, by decide +kernel, by decide +kernel⟩⟩
set_option maxRecDepth 20000 in
theorem Y_X8_isNumber : Yv yX8_isNumber cX8_isNumber 3 (some .boolean) 2 := ⟨T_w 786 (by rfl) (by rfl), T_w 785 (by decide +kernel) (by rfl), T_w 35 (by decide +kernel) (by rfl), T_w 57 (by decide +kernel) (by rfl), ⟨by decide +kernel, by decide +kernel, by decide +kernel⟩⟩
set_option maxRecDepth 20000 in
theorem Y_X8_isFreeNode : Yv yX8_isFreeNode cX8_isFreeNode 4 (some .boolean) 1 := ⟨T_w 790 (by rfl) (by rfl), T_w 789 (by decide +kernel) (by rfl), T_w 36 (by decide +kernel) (by rfl), T_w 57 (by decide +kernel) (by rfl), ⟨by decide +kernel, by decide +kernel, by decide +kernel⟩⟩
set_option maxRecDepth 20000 in
theorem Y_X8_readsContact : Yv yX8_readsContact cX8_readsContact 4 (none) 1 := ⟨T_w 794 (by rfl) (by rfl), T_w 793 (by decide +kernel) (by rfl), T_w 37 (by decide +kernel) (by rfl), T_w 57 (by decide +kernel) (by rfl), ⟨by decide +kernel, by decide +kernel, by decide +kernel⟩⟩
set_option maxRecDepth 20000 in
theorem Y_X8_contact : Yv yX8_contact cX8_contact 3 (some .int) 2 := ⟨T_w 798 (by rfl) (by rfl), T_w 796 (by decide +kernel) (by rfl), T_w 797 (by decide +kernel) (by rfl), T_w 57 (by decide +kernel) (by rfl), ⟨by decide +kernel, by decide +kernel, by decide +kernel⟩⟩
set_option maxRecDepth 20000 in
theorem Y_X8_isContact : Yv yX8_isContact cX8_isContact 2 (some .boolean) 1 := ⟨T_w 802 (by rfl) (by rfl), T_w 801 (by decide +kernel) (by rfl), T_w 38 (by decide +kernel) (by rfl), T_w 57 (by decide +kernel) (by rfl), ⟨by decide +kernel, by decide +kernel, by decide +kernel⟩⟩
set_option maxRecDepth 20000 in
theorem Y_X8_load : Yv yX8_load cX8_load 5 (some .int) 2 := ⟨T_w 806 (by rfl) (by rfl), T_w 804 (by decide +kernel) (by rfl), T_w 805 (by decide +kernel) (by rfl), T_w 57 (by decide +kernel) (by rfl), ⟨by decide +kernel, by decide +kernel, by decide +kernel⟩⟩
set_option maxRecDepth 20000 in
theorem Y_X8_isLoad : Yv yX8_isLoad cX8_isLoad 2 (some .boolean) 1 := ⟨T_w 810 (by rfl) (by rfl), T_w 809 (by decide +kernel) (by rfl), T_w 39 (by decide +kernel) (by rfl), T_w 57 (by decide +kernel) (by rfl), ⟨by decide +kernel, by decide +kernel, by decide +kernel⟩⟩
set_option maxRecDepth 20000 in
theorem Y_X8_pathMany : Yv yX8_pathMany cX8_pathMany 3 (some .int) 1 := ⟨T_w 814 (by rfl) (by rfl), T_w 813 (by decide +kernel) (by rfl), T_w 40 (by decide +kernel) (by rfl), T_w 57 (by decide +kernel) (by rfl), ⟨by decide +kernel, by decide +kernel, by decide +kernel⟩⟩
set_option maxRecDepth 20000 in
theorem Y_X8_beginsPath : Yv yX8_beginsPath cX8_beginsPath 1 (none) 0 := ⟨T_w 818 (by rfl) (by rfl), T_w 817 (by decide +kernel) (by rfl), T_w 41 (by decide +kernel) (by rfl), T_w 57 (by decide +kernel) (by rfl), ⟨by decide +kernel, by decide +kernel, by decide +kernel⟩⟩
set_option maxRecDepth 20000 in
theorem Y_X8_nextPath : Yv yX8_nextPath cX8_nextPath 4 (some .boolean) 1 := ⟨T_w 822 (by rfl) (by rfl), T_w 821 (by decide +kernel) (by rfl), T_w 42 (by decide +kernel) (by rfl), T_w 57 (by decide +kernel) (by rfl), ⟨by decide +kernel, by decide +kernel, by decide +kernel⟩⟩
set_option maxRecDepth 20000 in
theorem Y_X8_toBy : Yv yX8_toBy cX8_toBy 3 (some .int) 2 := ⟨T_w 826 (by rfl) (by rfl), T_w 825 (by decide +kernel) (by rfl), T_w 43 (by decide +kernel) (by rfl), T_w 57 (by decide +kernel) (by rfl), ⟨by decide +kernel, by decide +kernel, by decide +kernel⟩⟩
set_option maxRecDepth 20000 in
theorem Y_X8_isOnPath : Yv yX8_isOnPath cX8_isOnPath 4 (some .boolean) 1 := ⟨T_w 830 (by rfl) (by rfl), T_w 829 (by decide +kernel) (by rfl), T_w 44 (by decide +kernel) (by rfl), T_w 57 (by decide +kernel) (by rfl), ⟨by decide +kernel, by decide +kernel, by decide +kernel⟩⟩
set_option maxRecDepth 20000 in
theorem Y_X8_wishes : Yv yX8_wishes cX8_wishes 4 (some .int) 2 := ⟨T_w 834 (by rfl) (by rfl), T_w 832 (by decide +kernel) (by rfl), T_w 833 (by decide +kernel) (by rfl), T_w 57 (by decide +kernel) (by rfl), ⟨by decide +kernel, by decide +kernel, by decide +kernel⟩⟩
set_option maxRecDepth 20000 in
theorem Y_X8_notes : Yv yX8_notes cX8_notes 2 (none) 0 := ⟨T_w 839 (by rfl) (by rfl), T_w 838 (by decide +kernel) (by rfl), T_w 45 (by decide +kernel) (by rfl), T_w 57 (by decide +kernel) (by rfl), ⟨by decide +kernel, by decide +kernel, by decide +kernel⟩⟩
set_option maxRecDepth 20000 in
theorem Y_X8_cures : Yv yX8_cures cX8_cures 5 (some .int) 3 := ⟨T_w 843 (by rfl) (by rfl), T_w 841 (by decide +kernel) (by rfl), T_w 842 (by decide +kernel) (by rfl), T_w 57 (by decide +kernel) (by rfl), ⟨by decide +kernel, by decide +kernel, by decide +kernel⟩⟩
set_option maxRecDepth 20000 in
theorem Y_X8_sticks : Yv yX8_sticks cX8_sticks 4 (some .int) 2 := ⟨T_w 847 (by rfl) (by rfl), T_w 845 (by decide +kernel) (by rfl), T_w 846 (by decide +kernel) (by rfl), T_w 57 (by decide +kernel) (by rfl), ⟨by decide +kernel, by decide +kernel, by decide +kernel⟩⟩
set_option maxRecDepth 20000 in
theorem Y_X8_undo : Yv yX8_undo cX8_undo 2 (some .int) 0 := ⟨T_w 851 (by rfl) (by rfl), T_w 849 (by decide +kernel) (by rfl), T_w 850 (by decide +kernel) (by rfl), T_w 57 (by decide +kernel) (by rfl), ⟨by decide +kernel, by decide +kernel, by decide +kernel⟩⟩
set_option maxRecDepth 20000 in
theorem Y_X8_path : Yv yX8_path cX8_path 7 (some .int) 3 := ⟨T_w 855 (by rfl) (by rfl), T_w 853 (by decide +kernel) (by rfl), T_w 854 (by decide +kernel) (by rfl), T_w 57 (by decide +kernel) (by rfl), ⟨by decide +kernel, by decide +kernel, by decide +kernel⟩⟩
set_option maxRecDepth 20000 in
theorem Y_X8_shutIn : Yv yX8_shutIn cX8_shutIn 5 (some .int) 0 := ⟨T_w 859 (by rfl) (by rfl), T_w 858 (by decide +kernel) (by rfl), T_w 46 (by decide +kernel) (by rfl), T_w 57 (by decide +kernel) (by rfl), ⟨by decide +kernel, by decide +kernel, by decide +kernel⟩⟩
set_option maxRecDepth 20000 in
theorem Y_X8_shortest : Yv yX8_shortest cX8_shortest 6 (some .int) 3 := ⟨T_w 863 (by rfl) (by rfl), T_w 861 (by decide +kernel) (by rfl), T_w 862 (by decide +kernel) (by rfl), T_w 57 (by decide +kernel) (by rfl), ⟨by decide +kernel, by decide +kernel, by decide +kernel⟩⟩
set_option maxRecDepth 20000 in
theorem Y_X8_isState : Ys yX8_isState cX8_isState 1 (some .boolean) 1 := ⟨T_w 866 (by rfl) (by rfl), T_w 865 (by decide +kernel) (by rfl), T_w 57 (by decide +kernel) (by rfl), ⟨by decide +kernel, by decide +kernel, by decide +kernel⟩⟩
set_option maxRecDepth 20000 in
theorem Y_X8_parting : Yv yX8_parting cX8_parting 5 (some .int) 2 := ⟨T_w 870 (by rfl) (by rfl), T_w 868 (by decide +kernel) (by rfl), T_w 869 (by decide +kernel) (by rfl), T_w 57 (by decide +kernel) (by rfl), ⟨by decide +kernel, by decide +kernel, by decide +kernel⟩⟩
set_option maxRecDepth 20000 in
theorem Y_X8_ones : Ys yX8_ones cX8_ones 3 (some .int) 1 := ⟨T_w 873 (by rfl) (by rfl), T_w 872 (by decide +kernel) (by rfl), T_w 57 (by decide +kernel) (by rfl), ⟨by decide +kernel, by decide +kernel, by decide +kernel⟩⟩
set_option maxRecDepth 20000 in
theorem Y_X8_enough : Yv yX8_enough cX8_enough 8 (some .int) 1 := ⟨T_w 877 (by rfl) (by rfl), T_w 875 (by decide +kernel) (by rfl), T_w 876 (by decide +kernel) (by rfl), T_w 57 (by decide +kernel) (by rfl), ⟨by decide +kernel, by decide +kernel, by decide +kernel⟩⟩
set_option maxRecDepth 20000 in
theorem Y_X8_isEnough : Yv yX8_isEnough cX8_isEnough 6 (some .boolean) 1 := ⟨T_w 881 (by rfl) (by rfl), T_w 880 (by decide +kernel) (by rfl), T_w 47 (by decide +kernel) (by rfl), T_w 57 (by decide +kernel) (by rfl), ⟨by decide +kernel, by decide +kernel, by decide +kernel⟩⟩
set_option maxRecDepth 20000 in
theorem Y_X8_flash : Yv yX8_flash cX8_flash 8 (some .int) 3 := ⟨T_w 885 (by rfl) (by rfl), T_w 883 (by decide +kernel) (by rfl), T_w 884 (by decide +kernel) (by rfl), T_w 57 (by decide +kernel) (by rfl), ⟨by decide +kernel, by decide +kernel, by decide +kernel⟩⟩
set_option maxRecDepth 20000 in
theorem Y_X8_odds : Yv yX8_odds cX8_odds 13 (some .int) 4 := ⟨T_w 889 (by rfl) (by rfl), T_w 887 (by decide +kernel) (by rfl), T_w 888 (by decide +kernel) (by rfl), T_w 57 (by decide +kernel) (by rfl), ⟨by decide +kernel, by decide +kernel, by decide +kernel⟩⟩
set_option maxRecDepth 20000 in
theorem Y_X8_gcd : Ys yX8_gcd cX8_gcd 10 (some .long) 2 := ⟨T_w 893 (by rfl) (by rfl), T_w 892 (by decide +kernel) (by rfl), T_w 57 (by decide +kernel) (by rfl), ⟨by decide +kernel, by decide +kernel, by decide +kernel⟩⟩
set_option maxRecDepth 20000 in
theorem Y_X8_sees : Yv yX8_sees cX8_sees 4 (some .int) 3 := ⟨T_w 897 (by rfl) (by rfl), T_w 895 (by decide +kernel) (by rfl), T_w 896 (by decide +kernel) (by rfl), T_w 57 (by decide +kernel) (by rfl), ⟨by decide +kernel, by decide +kernel, by decide +kernel⟩⟩
set_option maxRecDepth 20000 in
theorem Y_X8_forget : Yv yX8_forget cX8_forget 2 (some .int) 0 := ⟨T_w 901 (by rfl) (by rfl), T_w 899 (by decide +kernel) (by rfl), T_w 900 (by decide +kernel) (by rfl), T_w 57 (by decide +kernel) (by rfl), ⟨by decide +kernel, by decide +kernel, by decide +kernel⟩⟩
set_option maxRecDepth 20000 in
theorem Y_X8_unseen : Yv yX8_unseen cX8_unseen 7 (some .int) 1 := ⟨T_w 905 (by rfl) (by rfl), T_w 903 (by decide +kernel) (by rfl), T_w 904 (by decide +kernel) (by rfl), T_w 57 (by decide +kernel) (by rfl), ⟨by decide +kernel, by decide +kernel, by decide +kernel⟩⟩
set_option maxRecDepth 20000 in
theorem Y_X8_keep : Yv yX8_keep cX8_keep 3 (some .int) 1 := ⟨T_w 909 (by rfl) (by rfl), T_w 907 (by decide +kernel) (by rfl), T_w 908 (by decide +kernel) (by rfl), T_w 57 (by decide +kernel) (by rfl), ⟨by decide +kernel, by decide +kernel, by decide +kernel⟩⟩
set_option maxRecDepth 20000 in
theorem Y_X8_back : Yv yX8_back cX8_back 3 (some .int) 1 := ⟨T_w 913 (by rfl) (by rfl), T_w 911 (by decide +kernel) (by rfl), T_w 912 (by decide +kernel) (by rfl), T_w 57 (by decide +kernel) (by rfl), ⟨by decide +kernel, by decide +kernel, by decide +kernel⟩⟩
set_option maxRecDepth 20000 in
theorem Y_X8_count : Yv yX8_count cX8_count 5 (some .int) 1 := ⟨T_w 917 (by rfl) (by rfl), T_w 915 (by decide +kernel) (by rfl), T_w 916 (by decide +kernel) (by rfl), T_w 57 (by decide +kernel) (by rfl), ⟨by decide +kernel, by decide +kernel, by decide +kernel⟩⟩
end
section
theorem dX0_init_0 : decode cX0_init 0 = .ok (.aload_n 0, 1) := by decide +kernel
theorem dX0_init_1 : decode cX0_init 1 = .ok (.invokespecial 3, 3) := by decide +kernel
theorem dX0_init_4 : decode cX0_init 4 = .ok (.aload_n 0, 1) := by decide +kernel
theorem dX0_init_5 : decode cX0_init 5 = .ok (.bipush 10, 2) := by decide +kernel
theorem dX0_init_7 : decode cX0_init 7 = .ok (.newarray .int, 2) := by decide +kernel
theorem dX0_init_9 : decode cX0_init 9 = .ok (.putfield 9, 3) := by decide +kernel
theorem dX0_init_12 : decode cX0_init 12 = .ok (.aload_n 0, 1) := by decide +kernel
theorem dX0_init_13 : decode cX0_init 13 = .ok (.bipush 10, 2) := by decide +kernel
theorem dX0_init_15 : decode cX0_init 15 = .ok (.newarray .int, 2) := by decide +kernel
theorem dX0_init_17 : decode cX0_init 17 = .ok (.putfield 15, 3) := by decide +kernel
theorem dX0_init_20 : decode cX0_init 20 = .ok (.aload_n 0, 1) := by decide +kernel
theorem dX0_init_21 : decode cX0_init 21 = .ok (.bipush 10, 2) := by decide +kernel
theorem dX0_init_23 : decode cX0_init 23 = .ok (.newarray .int, 2) := by decide +kernel
theorem dX0_init_25 : decode cX0_init 25 = .ok (.putfield 18, 3) := by decide +kernel
theorem dX0_init_28 : decode cX0_init 28 = .ok (.aload_n 0, 1) := by decide +kernel
theorem dX0_init_29 : decode cX0_init 29 = .ok (.bipush 10, 2) := by decide +kernel
theorem dX0_init_31 : decode cX0_init 31 = .ok (.newarray .int, 2) := by decide +kernel
theorem dX0_init_33 : decode cX0_init 33 = .ok (.putfield 21, 3) := by decide +kernel
theorem dX0_init_36 : decode cX0_init 36 = .ok (.return_, 1) := by decide +kernel
theorem dX0_note_0 : decode cX0_note 0 = .ok (.aload_n 0, 1) := by decide +kernel
theorem dX0_note_1 : decode cX0_note 1 = .ok (.getfield 24, 3) := by decide +kernel
theorem dX0_note_4 : decode cX0_note 4 = .ok (.bipush 10, 2) := by decide +kernel
theorem dX0_note_6 : decode cX0_note 6 = .ok (.if_icmp .lt 7, 3) := by decide +kernel
theorem dX0_note_9 : decode cX0_note 9 = .ok (.aload_n 0, 1) := by decide +kernel
theorem dX0_note_10 : decode cX0_note 10 = .ok (.invokevirtual 28, 3) := by decide +kernel
theorem dX0_note_13 : decode cX0_note 13 = .ok (.aload_n 0, 1) := by decide +kernel
theorem dX0_note_14 : decode cX0_note 14 = .ok (.getfield 9, 3) := by decide +kernel
theorem dX0_note_17 : decode cX0_note 17 = .ok (.aload_n 0, 1) := by decide +kernel
theorem dX0_note_18 : decode cX0_note 18 = .ok (.getfield 24, 3) := by decide +kernel
theorem dX0_note_21 : decode cX0_note 21 = .ok (.iload_n 1, 1) := by decide +kernel
theorem dX0_note_22 : decode cX0_note 22 = .ok (.iastore, 1) := by decide +kernel
theorem dX0_note_23 : decode cX0_note 23 = .ok (.aload_n 0, 1) := by decide +kernel
theorem dX0_note_24 : decode cX0_note 24 = .ok (.getfield 15, 3) := by decide +kernel
theorem dX0_note_27 : decode cX0_note 27 = .ok (.aload_n 0, 1) := by decide +kernel
theorem dX0_note_28 : decode cX0_note 28 = .ok (.getfield 24, 3) := by decide +kernel
theorem dX0_note_31 : decode cX0_note 31 = .ok (.iload_n 2, 1) := by decide +kernel
theorem dX0_note_32 : decode cX0_note 32 = .ok (.iastore, 1) := by decide +kernel
theorem dX0_note_33 : decode cX0_note 33 = .ok (.aload_n 0, 1) := by decide +kernel
theorem dX0_note_34 : decode cX0_note 34 = .ok (.getfield 18, 3) := by decide +kernel
theorem dX0_note_37 : decode cX0_note 37 = .ok (.aload_n 0, 1) := by decide +kernel
theorem dX0_note_38 : decode cX0_note 38 = .ok (.getfield 24, 3) := by decide +kernel
theorem dX0_note_41 : decode cX0_note 41 = .ok (.iload_n 3, 1) := by decide +kernel
theorem dX0_note_42 : decode cX0_note 42 = .ok (.iastore, 1) := by decide +kernel
theorem dX0_note_43 : decode cX0_note 43 = .ok (.aload_n 0, 1) := by decide +kernel
theorem dX0_note_44 : decode cX0_note 44 = .ok (.getfield 21, 3) := by decide +kernel
theorem dX0_note_47 : decode cX0_note 47 = .ok (.aload_n 0, 1) := by decide +kernel
theorem dX0_note_48 : decode cX0_note 48 = .ok (.getfield 24, 3) := by decide +kernel
theorem dX0_note_51 : decode cX0_note 51 = .ok (.iload 4, 2) := by decide +kernel
theorem dX0_note_53 : decode cX0_note 53 = .ok (.iastore, 1) := by decide +kernel
theorem dX0_note_54 : decode cX0_note 54 = .ok (.aload_n 0, 1) := by decide +kernel
theorem dX0_note_55 : decode cX0_note 55 = .ok (.dup, 1) := by decide +kernel
theorem dX0_note_56 : decode cX0_note 56 = .ok (.getfield 24, 3) := by decide +kernel
theorem dX0_note_59 : decode cX0_note 59 = .ok (.iconst 1, 1) := by decide +kernel
theorem dX0_note_60 : decode cX0_note 60 = .ok (.iadd, 1) := by decide +kernel
theorem dX0_note_61 : decode cX0_note 61 = .ok (.putfield 24, 3) := by decide +kernel
theorem dX0_note_64 : decode cX0_note 64 = .ok (.return_, 1) := by decide +kernel
theorem dX0_takeBack_0 : decode cX0_takeBack 0 = .ok (.aload_n 0, 1) := by decide +kernel
theorem dX0_takeBack_1 : decode cX0_takeBack 1 = .ok (.getfield 24, 3) := by decide +kernel
theorem dX0_takeBack_4 : decode cX0_takeBack 4 = .ok (.ifCond .gt 4, 3) := by decide +kernel
theorem dX0_takeBack_7 : decode cX0_takeBack 7 = .ok (.return_, 1) := by decide +kernel
theorem dX0_takeBack_8 : decode cX0_takeBack 8 = .ok (.aload_n 0, 1) := by decide +kernel
theorem dX0_takeBack_9 : decode cX0_takeBack 9 = .ok (.dup, 1) := by decide +kernel
theorem dX0_takeBack_10 : decode cX0_takeBack 10 = .ok (.getfield 24, 3) := by decide +kernel
theorem dX0_takeBack_13 : decode cX0_takeBack 13 = .ok (.iconst 1, 1) := by decide +kernel
theorem dX0_takeBack_14 : decode cX0_takeBack 14 = .ok (.isub, 1) := by decide +kernel
theorem dX0_takeBack_15 : decode cX0_takeBack 15 = .ok (.putfield 24, 3) := by decide +kernel
theorem dX0_takeBack_18 : decode cX0_takeBack 18 = .ok (.aload_n 0, 1) := by decide +kernel
theorem dX0_takeBack_19 : decode cX0_takeBack 19 = .ok (.getfield 15, 3) := by decide +kernel
theorem dX0_takeBack_22 : decode cX0_takeBack 22 = .ok (.aload_n 0, 1) := by decide +kernel
theorem dX0_takeBack_23 : decode cX0_takeBack 23 = .ok (.getfield 24, 3) := by decide +kernel
theorem dX0_takeBack_26 : decode cX0_takeBack 26 = .ok (.iaload, 1) := by decide +kernel
theorem dX0_takeBack_27 : decode cX0_takeBack 27 = .ok (.istore_n 2, 1) := by decide +kernel
theorem dX0_takeBack_28 : decode cX0_takeBack 28 = .ok (.aload_n 0, 1) := by decide +kernel
theorem dX0_takeBack_29 : decode cX0_takeBack 29 = .ok (.getfield 9, 3) := by decide +kernel
theorem dX0_takeBack_32 : decode cX0_takeBack 32 = .ok (.aload_n 0, 1) := by decide +kernel
theorem dX0_takeBack_33 : decode cX0_takeBack 33 = .ok (.getfield 24, 3) := by decide +kernel
theorem dX0_takeBack_36 : decode cX0_takeBack 36 = .ok (.iaload, 1) := by decide +kernel
theorem dX0_takeBack_37 : decode cX0_takeBack 37 = .ok (.lookupswitch 78 #[(0, 27), (1, 45)], 27) := by decide +kernel
theorem dX0_takeBack_64 : decode cX0_takeBack 64 = .ok (.aload_n 1, 1) := by decide +kernel
theorem dX0_takeBack_65 : decode cX0_takeBack 65 = .ok (.getfield 31, 3) := by decide +kernel
theorem dX0_takeBack_68 : decode cX0_takeBack 68 = .ok (.iload_n 2, 1) := by decide +kernel
theorem dX0_takeBack_69 : decode cX0_takeBack 69 = .ok (.aload_n 0, 1) := by decide +kernel
theorem dX0_takeBack_70 : decode cX0_takeBack 70 = .ok (.getfield 18, 3) := by decide +kernel
theorem dX0_takeBack_73 : decode cX0_takeBack 73 = .ok (.aload_n 0, 1) := by decide +kernel
theorem dX0_takeBack_74 : decode cX0_takeBack 74 = .ok (.getfield 24, 3) := by decide +kernel
theorem dX0_takeBack_77 : decode cX0_takeBack 77 = .ok (.iaload, 1) := by decide +kernel
theorem dX0_takeBack_78 : decode cX0_takeBack 78 = .ok (.iastore, 1) := by decide +kernel
theorem dX0_takeBack_79 : decode cX0_takeBack 79 = .ok (.goto 51, 3) := by decide +kernel
theorem dX0_takeBack_82 : decode cX0_takeBack 82 = .ok (.aload_n 1, 1) := by decide +kernel
theorem dX0_takeBack_83 : decode cX0_takeBack 83 = .ok (.getfield 36, 3) := by decide +kernel
theorem dX0_takeBack_86 : decode cX0_takeBack 86 = .ok (.iload_n 2, 1) := by decide +kernel
theorem dX0_takeBack_87 : decode cX0_takeBack 87 = .ok (.aload_n 0, 1) := by decide +kernel
theorem dX0_takeBack_88 : decode cX0_takeBack 88 = .ok (.getfield 18, 3) := by decide +kernel
theorem dX0_takeBack_91 : decode cX0_takeBack 91 = .ok (.aload_n 0, 1) := by decide +kernel
theorem dX0_takeBack_92 : decode cX0_takeBack 92 = .ok (.getfield 24, 3) := by decide +kernel
theorem dX0_takeBack_95 : decode cX0_takeBack 95 = .ok (.iaload, 1) := by decide +kernel
theorem dX0_takeBack_96 : decode cX0_takeBack 96 = .ok (.iastore, 1) := by decide +kernel
theorem dX0_takeBack_97 : decode cX0_takeBack 97 = .ok (.aload_n 1, 1) := by decide +kernel
theorem dX0_takeBack_98 : decode cX0_takeBack 98 = .ok (.getfield 39, 3) := by decide +kernel
theorem dX0_takeBack_101 : decode cX0_takeBack 101 = .ok (.iload_n 2, 1) := by decide +kernel
theorem dX0_takeBack_102 : decode cX0_takeBack 102 = .ok (.aload_n 0, 1) := by decide +kernel
theorem dX0_takeBack_103 : decode cX0_takeBack 103 = .ok (.getfield 21, 3) := by decide +kernel
theorem dX0_takeBack_106 : decode cX0_takeBack 106 = .ok (.aload_n 0, 1) := by decide +kernel
theorem dX0_takeBack_107 : decode cX0_takeBack 107 = .ok (.getfield 24, 3) := by decide +kernel
theorem dX0_takeBack_110 : decode cX0_takeBack 110 = .ok (.iaload, 1) := by decide +kernel
theorem dX0_takeBack_111 : decode cX0_takeBack 111 = .ok (.iastore, 1) := by decide +kernel
theorem dX0_takeBack_112 : decode cX0_takeBack 112 = .ok (.goto 18, 3) := by decide +kernel
theorem dX0_takeBack_115 : decode cX0_takeBack 115 = .ok (.aload_n 1, 1) := by decide +kernel
theorem dX0_takeBack_116 : decode cX0_takeBack 116 = .ok (.getfield 42, 3) := by decide +kernel
theorem dX0_takeBack_119 : decode cX0_takeBack 119 = .ok (.iload_n 2, 1) := by decide +kernel
theorem dX0_takeBack_120 : decode cX0_takeBack 120 = .ok (.aload_n 0, 1) := by decide +kernel
theorem dX0_takeBack_121 : decode cX0_takeBack 121 = .ok (.getfield 18, 3) := by decide +kernel
theorem dX0_takeBack_124 : decode cX0_takeBack 124 = .ok (.aload_n 0, 1) := by decide +kernel
theorem dX0_takeBack_125 : decode cX0_takeBack 125 = .ok (.getfield 24, 3) := by decide +kernel
theorem dX0_takeBack_128 : decode cX0_takeBack 128 = .ok (.iaload, 1) := by decide +kernel
theorem dX0_takeBack_129 : decode cX0_takeBack 129 = .ok (.iastore, 1) := by decide +kernel
theorem dX0_takeBack_130 : decode cX0_takeBack 130 = .ok (.return_, 1) := by decide +kernel
theorem dX0_dropOldest_0 : decode cX0_dropOldest 0 = .ok (.bipush 9, 2) := by decide +kernel
theorem dX0_dropOldest_2 : decode cX0_dropOldest 2 = .ok (.istore_n 1, 1) := by decide +kernel
theorem dX0_dropOldest_3 : decode cX0_dropOldest 3 = .ok (.aload_n 0, 1) := by decide +kernel
theorem dX0_dropOldest_4 : decode cX0_dropOldest 4 = .ok (.getfield 9, 3) := by decide +kernel
theorem dX0_dropOldest_7 : decode cX0_dropOldest 7 = .ok (.iconst 1, 1) := by decide +kernel
theorem dX0_dropOldest_8 : decode cX0_dropOldest 8 = .ok (.aload_n 0, 1) := by decide +kernel
theorem dX0_dropOldest_9 : decode cX0_dropOldest 9 = .ok (.getfield 9, 3) := by decide +kernel
theorem dX0_dropOldest_12 : decode cX0_dropOldest 12 = .ok (.iconst 0, 1) := by decide +kernel
theorem dX0_dropOldest_13 : decode cX0_dropOldest 13 = .ok (.iload_n 1, 1) := by decide +kernel
theorem dX0_dropOldest_14 : decode cX0_dropOldest 14 = .ok (.invokestatic 45, 3) := by decide +kernel
theorem dX0_dropOldest_17 : decode cX0_dropOldest 17 = .ok (.aload_n 0, 1) := by decide +kernel
theorem dX0_dropOldest_18 : decode cX0_dropOldest 18 = .ok (.getfield 15, 3) := by decide +kernel
theorem dX0_dropOldest_21 : decode cX0_dropOldest 21 = .ok (.iconst 1, 1) := by decide +kernel
theorem dX0_dropOldest_22 : decode cX0_dropOldest 22 = .ok (.aload_n 0, 1) := by decide +kernel
theorem dX0_dropOldest_23 : decode cX0_dropOldest 23 = .ok (.getfield 15, 3) := by decide +kernel
theorem dX0_dropOldest_26 : decode cX0_dropOldest 26 = .ok (.iconst 0, 1) := by decide +kernel
theorem dX0_dropOldest_27 : decode cX0_dropOldest 27 = .ok (.iload_n 1, 1) := by decide +kernel
theorem dX0_dropOldest_28 : decode cX0_dropOldest 28 = .ok (.invokestatic 45, 3) := by decide +kernel
theorem dX0_dropOldest_31 : decode cX0_dropOldest 31 = .ok (.aload_n 0, 1) := by decide +kernel
theorem dX0_dropOldest_32 : decode cX0_dropOldest 32 = .ok (.getfield 18, 3) := by decide +kernel
theorem dX0_dropOldest_35 : decode cX0_dropOldest 35 = .ok (.iconst 1, 1) := by decide +kernel
theorem dX0_dropOldest_36 : decode cX0_dropOldest 36 = .ok (.aload_n 0, 1) := by decide +kernel
theorem dX0_dropOldest_37 : decode cX0_dropOldest 37 = .ok (.getfield 18, 3) := by decide +kernel
theorem dX0_dropOldest_40 : decode cX0_dropOldest 40 = .ok (.iconst 0, 1) := by decide +kernel
theorem dX0_dropOldest_41 : decode cX0_dropOldest 41 = .ok (.iload_n 1, 1) := by decide +kernel
theorem dX0_dropOldest_42 : decode cX0_dropOldest 42 = .ok (.invokestatic 45, 3) := by decide +kernel
theorem dX0_dropOldest_45 : decode cX0_dropOldest 45 = .ok (.aload_n 0, 1) := by decide +kernel
theorem dX0_dropOldest_46 : decode cX0_dropOldest 46 = .ok (.getfield 21, 3) := by decide +kernel
theorem dX0_dropOldest_49 : decode cX0_dropOldest 49 = .ok (.iconst 1, 1) := by decide +kernel
theorem dX0_dropOldest_50 : decode cX0_dropOldest 50 = .ok (.aload_n 0, 1) := by decide +kernel
theorem dX0_dropOldest_51 : decode cX0_dropOldest 51 = .ok (.getfield 21, 3) := by decide +kernel
theorem dX0_dropOldest_54 : decode cX0_dropOldest 54 = .ok (.iconst 0, 1) := by decide +kernel
theorem dX0_dropOldest_55 : decode cX0_dropOldest 55 = .ok (.iload_n 1, 1) := by decide +kernel
theorem dX0_dropOldest_56 : decode cX0_dropOldest 56 = .ok (.invokestatic 45, 3) := by decide +kernel
theorem dX0_dropOldest_59 : decode cX0_dropOldest 59 = .ok (.aload_n 0, 1) := by decide +kernel
theorem dX0_dropOldest_60 : decode cX0_dropOldest 60 = .ok (.iload_n 1, 1) := by decide +kernel
theorem dX0_dropOldest_61 : decode cX0_dropOldest 61 = .ok (.putfield 24, 3) := by decide +kernel
theorem dX0_dropOldest_64 : decode cX0_dropOldest 64 = .ok (.return_, 1) := by decide +kernel
theorem dX1_init_0 : decode cX1_init 0 = .ok (.aload_n 0, 1) := by decide +kernel
theorem dX1_init_1 : decode cX1_init 1 = .ok (.invokespecial 3, 3) := by decide +kernel
theorem dX1_init_4 : decode cX1_init 4 = .ok (.aload_n 0, 1) := by decide +kernel
theorem dX1_init_5 : decode cX1_init 5 = .ok (.iconst 3, 1) := by decide +kernel
theorem dX1_init_6 : decode cX1_init 6 = .ok (.putfield 9, 3) := by decide +kernel
theorem dX1_init_9 : decode cX1_init 9 = .ok (.aload_n 0, 1) := by decide +kernel
theorem dX1_init_10 : decode cX1_init 10 = .ok (.bipush 9, 2) := by decide +kernel
theorem dX1_init_12 : decode cX1_init 12 = .ok (.newarray .int, 2) := by decide +kernel
theorem dX1_init_14 : decode cX1_init 14 = .ok (.putfield 15, 3) := by decide +kernel
theorem dX1_init_17 : decode cX1_init 17 = .ok (.aload_n 0, 1) := by decide +kernel
theorem dX1_init_18 : decode cX1_init 18 = .ok (.bipush 9, 2) := by decide +kernel
theorem dX1_init_20 : decode cX1_init 20 = .ok (.newarray .int, 2) := by decide +kernel
theorem dX1_init_22 : decode cX1_init 22 = .ok (.putfield 19, 3) := by decide +kernel
theorem dX1_init_25 : decode cX1_init 25 = .ok (.aload_n 0, 1) := by decide +kernel
theorem dX1_init_26 : decode cX1_init 26 = .ok (.bipush 9, 2) := by decide +kernel
theorem dX1_init_28 : decode cX1_init 28 = .ok (.newarray .int, 2) := by decide +kernel
theorem dX1_init_30 : decode cX1_init 30 = .ok (.putfield 22, 3) := by decide +kernel
theorem dX1_init_33 : decode cX1_init 33 = .ok (.aload_n 0, 1) := by decide +kernel
theorem dX1_init_34 : decode cX1_init 34 = .ok (.bipush 9, 2) := by decide +kernel
theorem dX1_init_36 : decode cX1_init 36 = .ok (.newarray .int, 2) := by decide +kernel
theorem dX1_init_38 : decode cX1_init 38 = .ok (.putfield 25, 3) := by decide +kernel
theorem dX1_init_41 : decode cX1_init 41 = .ok (.aload_n 0, 1) := by decide +kernel
theorem dX1_init_42 : decode cX1_init 42 = .ok (.iconst 3, 1) := by decide +kernel
theorem dX1_init_43 : decode cX1_init 43 = .ok (.newarray .int, 2) := by decide +kernel
theorem dX1_init_45 : decode cX1_init 45 = .ok (.putfield 28, 3) := by decide +kernel
theorem dX1_init_48 : decode cX1_init 48 = .ok (.return_, 1) := by decide +kernel
theorem dX1_reset_0 : decode cX1_reset 0 = .ok (.aload_n 0, 1) := by decide +kernel
theorem dX1_reset_1 : decode cX1_reset 1 = .ok (.iconst 3, 1) := by decide +kernel
theorem dX1_reset_2 : decode cX1_reset 2 = .ok (.putfield 9, 3) := by decide +kernel
theorem dX1_reset_5 : decode cX1_reset 5 = .ok (.aload_n 0, 1) := by decide +kernel
theorem dX1_reset_6 : decode cX1_reset 6 = .ok (.iconst 0, 1) := by decide +kernel
theorem dX1_reset_7 : decode cX1_reset 7 = .ok (.putfield 31, 3) := by decide +kernel
theorem dX1_reset_10 : decode cX1_reset 10 = .ok (.aload_n 0, 1) := by decide +kernel
theorem dX1_reset_11 : decode cX1_reset 11 = .ok (.iconst 0, 1) := by decide +kernel
theorem dX1_reset_12 : decode cX1_reset 12 = .ok (.putfield 34, 3) := by decide +kernel
theorem dX1_reset_15 : decode cX1_reset 15 = .ok (.return_, 1) := by decide +kernel
theorem dX1_addContact_0 : decode cX1_addContact 0 = .ok (.aload_n 0, 1) := by decide +kernel
theorem dX1_addContact_1 : decode cX1_addContact 1 = .ok (.getfield 31, 3) := by decide +kernel
theorem dX1_addContact_4 : decode cX1_addContact 4 = .ok (.bipush 9, 2) := by decide +kernel
theorem dX1_addContact_6 : decode cX1_addContact 6 = .ok (.if_icmp .lt 4, 3) := by decide +kernel
theorem dX1_addContact_9 : decode cX1_addContact 9 = .ok (.return_, 1) := by decide +kernel
theorem dX1_addContact_10 : decode cX1_addContact 10 = .ok (.aload_n 0, 1) := by decide +kernel
theorem dX1_addContact_11 : decode cX1_addContact 11 = .ok (.getfield 15, 3) := by decide +kernel
theorem dX1_addContact_14 : decode cX1_addContact 14 = .ok (.aload_n 0, 1) := by decide +kernel
theorem dX1_addContact_15 : decode cX1_addContact 15 = .ok (.getfield 31, 3) := by decide +kernel
theorem dX1_addContact_18 : decode cX1_addContact 18 = .ok (.iload_n 1, 1) := by decide +kernel
theorem dX1_addContact_19 : decode cX1_addContact 19 = .ok (.iastore, 1) := by decide +kernel
theorem dX1_addContact_20 : decode cX1_addContact 20 = .ok (.aload_n 0, 1) := by decide +kernel
theorem dX1_addContact_21 : decode cX1_addContact 21 = .ok (.getfield 19, 3) := by decide +kernel
theorem dX1_addContact_24 : decode cX1_addContact 24 = .ok (.aload_n 0, 1) := by decide +kernel
theorem dX1_addContact_25 : decode cX1_addContact 25 = .ok (.getfield 31, 3) := by decide +kernel
theorem dX1_addContact_28 : decode cX1_addContact 28 = .ok (.iload_n 2, 1) := by decide +kernel
theorem dX1_addContact_29 : decode cX1_addContact 29 = .ok (.iastore, 1) := by decide +kernel
theorem dX1_addContact_30 : decode cX1_addContact 30 = .ok (.aload_n 0, 1) := by decide +kernel
theorem dX1_addContact_31 : decode cX1_addContact 31 = .ok (.getfield 22, 3) := by decide +kernel
theorem dX1_addContact_34 : decode cX1_addContact 34 = .ok (.aload_n 0, 1) := by decide +kernel
theorem dX1_addContact_35 : decode cX1_addContact 35 = .ok (.getfield 31, 3) := by decide +kernel
theorem dX1_addContact_38 : decode cX1_addContact 38 = .ok (.iload_n 3, 1) := by decide +kernel
theorem dX1_addContact_39 : decode cX1_addContact 39 = .ok (.iastore, 1) := by decide +kernel
theorem dX1_addContact_40 : decode cX1_addContact 40 = .ok (.aload_n 0, 1) := by decide +kernel
theorem dX1_addContact_41 : decode cX1_addContact 41 = .ok (.getfield 25, 3) := by decide +kernel
theorem dX1_addContact_44 : decode cX1_addContact 44 = .ok (.aload_n 0, 1) := by decide +kernel
theorem dX1_addContact_45 : decode cX1_addContact 45 = .ok (.getfield 31, 3) := by decide +kernel
theorem dX1_addContact_48 : decode cX1_addContact 48 = .ok (.iload 4, 2) := by decide +kernel
theorem dX1_addContact_50 : decode cX1_addContact 50 = .ok (.iastore, 1) := by decide +kernel
theorem dX1_addContact_51 : decode cX1_addContact 51 = .ok (.aload_n 0, 1) := by decide +kernel
theorem dX1_addContact_52 : decode cX1_addContact 52 = .ok (.dup, 1) := by decide +kernel
theorem dX1_addContact_53 : decode cX1_addContact 53 = .ok (.getfield 31, 3) := by decide +kernel
theorem dX1_addContact_56 : decode cX1_addContact 56 = .ok (.iconst 1, 1) := by decide +kernel
theorem dX1_addContact_57 : decode cX1_addContact 57 = .ok (.iadd, 1) := by decide +kernel
theorem dX1_addContact_58 : decode cX1_addContact 58 = .ok (.putfield 31, 3) := by decide +kernel
theorem dX1_addContact_61 : decode cX1_addContact 61 = .ok (.return_, 1) := by decide +kernel
theorem dX1_addLoad_0 : decode cX1_addLoad 0 = .ok (.aload_n 0, 1) := by decide +kernel
theorem dX1_addLoad_1 : decode cX1_addLoad 1 = .ok (.getfield 34, 3) := by decide +kernel
theorem dX1_addLoad_4 : decode cX1_addLoad 4 = .ok (.iconst 3, 1) := by decide +kernel
theorem dX1_addLoad_5 : decode cX1_addLoad 5 = .ok (.if_icmp .lt 4, 3) := by decide +kernel
theorem dX1_addLoad_8 : decode cX1_addLoad 8 = .ok (.return_, 1) := by decide +kernel
theorem dX1_addLoad_9 : decode cX1_addLoad 9 = .ok (.aload_n 0, 1) := by decide +kernel
theorem dX1_addLoad_10 : decode cX1_addLoad 10 = .ok (.getfield 28, 3) := by decide +kernel
theorem dX1_addLoad_13 : decode cX1_addLoad 13 = .ok (.aload_n 0, 1) := by decide +kernel
theorem dX1_addLoad_14 : decode cX1_addLoad 14 = .ok (.getfield 34, 3) := by decide +kernel
theorem dX1_addLoad_17 : decode cX1_addLoad 17 = .ok (.iload_n 1, 1) := by decide +kernel
theorem dX1_addLoad_18 : decode cX1_addLoad 18 = .ok (.iastore, 1) := by decide +kernel
theorem dX1_addLoad_19 : decode cX1_addLoad 19 = .ok (.aload_n 0, 1) := by decide +kernel
theorem dX1_addLoad_20 : decode cX1_addLoad 20 = .ok (.dup, 1) := by decide +kernel
theorem dX1_addLoad_21 : decode cX1_addLoad 21 = .ok (.getfield 34, 3) := by decide +kernel
theorem dX1_addLoad_24 : decode cX1_addLoad 24 = .ok (.iconst 1, 1) := by decide +kernel
theorem dX1_addLoad_25 : decode cX1_addLoad 25 = .ok (.iadd, 1) := by decide +kernel
theorem dX1_addLoad_26 : decode cX1_addLoad 26 = .ok (.putfield 34, 3) := by decide +kernel
theorem dX1_addLoad_29 : decode cX1_addLoad 29 = .ok (.return_, 1) := by decide +kernel
theorem dX1_hasLoadAt_0 : decode cX1_hasLoadAt 0 = .ok (.iconst 0, 1) := by decide +kernel
theorem dX1_hasLoadAt_1 : decode cX1_hasLoadAt 1 = .ok (.istore_n 2, 1) := by decide +kernel
theorem dX1_hasLoadAt_2 : decode cX1_hasLoadAt 2 = .ok (.iload_n 2, 1) := by decide +kernel
theorem dX1_hasLoadAt_3 : decode cX1_hasLoadAt 3 = .ok (.aload_n 0, 1) := by decide +kernel
theorem dX1_hasLoadAt_4 : decode cX1_hasLoadAt 4 = .ok (.getfield 34, 3) := by decide +kernel
theorem dX1_hasLoadAt_7 : decode cX1_hasLoadAt 7 = .ok (.if_icmp .ge 21, 3) := by decide +kernel
theorem dX1_hasLoadAt_10 : decode cX1_hasLoadAt 10 = .ok (.aload_n 0, 1) := by decide +kernel
theorem dX1_hasLoadAt_11 : decode cX1_hasLoadAt 11 = .ok (.getfield 28, 3) := by decide +kernel
theorem dX1_hasLoadAt_14 : decode cX1_hasLoadAt 14 = .ok (.iload_n 2, 1) := by decide +kernel
theorem dX1_hasLoadAt_15 : decode cX1_hasLoadAt 15 = .ok (.iaload, 1) := by decide +kernel
theorem dX1_hasLoadAt_16 : decode cX1_hasLoadAt 16 = .ok (.iload_n 1, 1) := by decide +kernel
theorem dX1_hasLoadAt_17 : decode cX1_hasLoadAt 17 = .ok (.if_icmp .ne 5, 3) := by decide +kernel
theorem dX1_hasLoadAt_20 : decode cX1_hasLoadAt 20 = .ok (.iconst 1, 1) := by decide +kernel
theorem dX1_hasLoadAt_21 : decode cX1_hasLoadAt 21 = .ok (.ireturn, 1) := by decide +kernel
theorem dX1_hasLoadAt_22 : decode cX1_hasLoadAt 22 = .ok (.iinc 2 1, 3) := by decide +kernel
theorem dX1_hasLoadAt_25 : decode cX1_hasLoadAt 25 = .ok (.goto (-23), 3) := by decide +kernel
theorem dX1_hasLoadAt_28 : decode cX1_hasLoadAt 28 = .ok (.iconst 0, 1) := by decide +kernel
theorem dX1_hasLoadAt_29 : decode cX1_hasLoadAt 29 = .ok (.ireturn, 1) := by decide +kernel
theorem dX1_takeFrom_0 : decode cX1_takeFrom 0 = .ok (.aload_n 0, 1) := by decide +kernel
theorem dX1_takeFrom_1 : decode cX1_takeFrom 1 = .ok (.aload_n 1, 1) := by decide +kernel
theorem dX1_takeFrom_2 : decode cX1_takeFrom 2 = .ok (.getfield 9, 3) := by decide +kernel
theorem dX1_takeFrom_5 : decode cX1_takeFrom 5 = .ok (.putfield 9, 3) := by decide +kernel
theorem dX1_takeFrom_8 : decode cX1_takeFrom 8 = .ok (.aload_n 0, 1) := by decide +kernel
theorem dX1_takeFrom_9 : decode cX1_takeFrom 9 = .ok (.aload_n 1, 1) := by decide +kernel
theorem dX1_takeFrom_10 : decode cX1_takeFrom 10 = .ok (.getfield 31, 3) := by decide +kernel
theorem dX1_takeFrom_13 : decode cX1_takeFrom 13 = .ok (.putfield 31, 3) := by decide +kernel
theorem dX1_takeFrom_16 : decode cX1_takeFrom 16 = .ok (.aload_n 0, 1) := by decide +kernel
theorem dX1_takeFrom_17 : decode cX1_takeFrom 17 = .ok (.aload_n 1, 1) := by decide +kernel
theorem dX1_takeFrom_18 : decode cX1_takeFrom 18 = .ok (.getfield 34, 3) := by decide +kernel
theorem dX1_takeFrom_21 : decode cX1_takeFrom 21 = .ok (.putfield 34, 3) := by decide +kernel
theorem dX1_takeFrom_24 : decode cX1_takeFrom 24 = .ok (.aload_n 1, 1) := by decide +kernel
theorem dX1_takeFrom_25 : decode cX1_takeFrom 25 = .ok (.getfield 15, 3) := by decide +kernel
theorem dX1_takeFrom_28 : decode cX1_takeFrom 28 = .ok (.iconst 0, 1) := by decide +kernel
theorem dX1_takeFrom_29 : decode cX1_takeFrom 29 = .ok (.aload_n 0, 1) := by decide +kernel
theorem dX1_takeFrom_30 : decode cX1_takeFrom 30 = .ok (.getfield 15, 3) := by decide +kernel
theorem dX1_takeFrom_33 : decode cX1_takeFrom 33 = .ok (.iconst 0, 1) := by decide +kernel
theorem dX1_takeFrom_34 : decode cX1_takeFrom 34 = .ok (.bipush 9, 2) := by decide +kernel
theorem dX1_takeFrom_36 : decode cX1_takeFrom 36 = .ok (.invokestatic 37, 3) := by decide +kernel
theorem dX1_takeFrom_39 : decode cX1_takeFrom 39 = .ok (.aload_n 1, 1) := by decide +kernel
theorem dX1_takeFrom_40 : decode cX1_takeFrom 40 = .ok (.getfield 19, 3) := by decide +kernel
theorem dX1_takeFrom_43 : decode cX1_takeFrom 43 = .ok (.iconst 0, 1) := by decide +kernel
theorem dX1_takeFrom_44 : decode cX1_takeFrom 44 = .ok (.aload_n 0, 1) := by decide +kernel
theorem dX1_takeFrom_45 : decode cX1_takeFrom 45 = .ok (.getfield 19, 3) := by decide +kernel
theorem dX1_takeFrom_48 : decode cX1_takeFrom 48 = .ok (.iconst 0, 1) := by decide +kernel
theorem dX1_takeFrom_49 : decode cX1_takeFrom 49 = .ok (.bipush 9, 2) := by decide +kernel
theorem dX1_takeFrom_51 : decode cX1_takeFrom 51 = .ok (.invokestatic 37, 3) := by decide +kernel
theorem dX1_takeFrom_54 : decode cX1_takeFrom 54 = .ok (.aload_n 1, 1) := by decide +kernel
theorem dX1_takeFrom_55 : decode cX1_takeFrom 55 = .ok (.getfield 22, 3) := by decide +kernel
theorem dX1_takeFrom_58 : decode cX1_takeFrom 58 = .ok (.iconst 0, 1) := by decide +kernel
theorem dX1_takeFrom_59 : decode cX1_takeFrom 59 = .ok (.aload_n 0, 1) := by decide +kernel
theorem dX1_takeFrom_60 : decode cX1_takeFrom 60 = .ok (.getfield 22, 3) := by decide +kernel
theorem dX1_takeFrom_63 : decode cX1_takeFrom 63 = .ok (.iconst 0, 1) := by decide +kernel
theorem dX1_takeFrom_64 : decode cX1_takeFrom 64 = .ok (.bipush 9, 2) := by decide +kernel
theorem dX1_takeFrom_66 : decode cX1_takeFrom 66 = .ok (.invokestatic 37, 3) := by decide +kernel
theorem dX1_takeFrom_69 : decode cX1_takeFrom 69 = .ok (.aload_n 1, 1) := by decide +kernel
theorem dX1_takeFrom_70 : decode cX1_takeFrom 70 = .ok (.getfield 25, 3) := by decide +kernel
theorem dX1_takeFrom_73 : decode cX1_takeFrom 73 = .ok (.iconst 0, 1) := by decide +kernel
theorem dX1_takeFrom_74 : decode cX1_takeFrom 74 = .ok (.aload_n 0, 1) := by decide +kernel
theorem dX1_takeFrom_75 : decode cX1_takeFrom 75 = .ok (.getfield 25, 3) := by decide +kernel
theorem dX1_takeFrom_78 : decode cX1_takeFrom 78 = .ok (.iconst 0, 1) := by decide +kernel
theorem dX1_takeFrom_79 : decode cX1_takeFrom 79 = .ok (.bipush 9, 2) := by decide +kernel
theorem dX1_takeFrom_81 : decode cX1_takeFrom 81 = .ok (.invokestatic 37, 3) := by decide +kernel
theorem dX1_takeFrom_84 : decode cX1_takeFrom 84 = .ok (.aload_n 1, 1) := by decide +kernel
theorem dX1_takeFrom_85 : decode cX1_takeFrom 85 = .ok (.getfield 28, 3) := by decide +kernel
theorem dX1_takeFrom_88 : decode cX1_takeFrom 88 = .ok (.iconst 0, 1) := by decide +kernel
theorem dX1_takeFrom_89 : decode cX1_takeFrom 89 = .ok (.aload_n 0, 1) := by decide +kernel
theorem dX1_takeFrom_90 : decode cX1_takeFrom 90 = .ok (.getfield 28, 3) := by decide +kernel
theorem dX1_takeFrom_93 : decode cX1_takeFrom 93 = .ok (.iconst 0, 1) := by decide +kernel
theorem dX1_takeFrom_94 : decode cX1_takeFrom 94 = .ok (.iconst 3, 1) := by decide +kernel
theorem dX1_takeFrom_95 : decode cX1_takeFrom 95 = .ok (.invokestatic 37, 3) := by decide +kernel
theorem dX1_takeFrom_98 : decode cX1_takeFrom 98 = .ok (.return_, 1) := by decide +kernel
theorem dX2_init_0 : decode cX2_init 0 = .ok (.aload_n 0, 1) := by decide +kernel
theorem dX2_init_1 : decode cX2_init 1 = .ok (.invokespecial 3, 3) := by decide +kernel
theorem dX2_init_4 : decode cX2_init 4 = .ok (.aload_n 0, 1) := by decide +kernel
theorem dX2_init_5 : decode cX2_init 5 = .ok (.new 9, 3) := by decide +kernel
theorem dX2_init_8 : decode cX2_init 8 = .ok (.dup, 1) := by decide +kernel
theorem dX2_init_9 : decode cX2_init 9 = .ok (.invokespecial 11, 3) := by decide +kernel
theorem dX2_init_12 : decode cX2_init 12 = .ok (.putfield 12, 3) := by decide +kernel
theorem dX2_init_15 : decode cX2_init 15 = .ok (.aload_n 0, 1) := by decide +kernel
theorem dX2_init_16 : decode cX2_init 16 = .ok (.bipush 100, 2) := by decide +kernel
theorem dX2_init_18 : decode cX2_init 18 = .ok (.newarray .int, 2) := by decide +kernel
theorem dX2_init_20 : decode cX2_init 20 = .ok (.putfield 18, 3) := by decide +kernel
theorem dX2_init_23 : decode cX2_init 23 = .ok (.return_, 1) := by decide +kernel
theorem dX2_append_0 : decode cX2_append 0 = .ok (.aload_n 0, 1) := by decide +kernel
theorem dX2_append_1 : decode cX2_append 1 = .ok (.getfield 22, 3) := by decide +kernel
theorem dX2_append_4 : decode cX2_append 4 = .ok (.bipush 100, 2) := by decide +kernel
theorem dX2_append_6 : decode cX2_append 6 = .ok (.if_icmp .lt 5, 3) := by decide +kernel
theorem dX2_append_9 : decode cX2_append 9 = .ok (.iconst 0, 1) := by decide +kernel
theorem dX2_append_10 : decode cX2_append 10 = .ok (.ireturn, 1) := by decide +kernel
theorem dX2_append_11 : decode cX2_append 11 = .ok (.aload_n 0, 1) := by decide +kernel
theorem dX2_append_12 : decode cX2_append 12 = .ok (.getfield 18, 3) := by decide +kernel
theorem dX2_append_15 : decode cX2_append 15 = .ok (.aload_n 0, 1) := by decide +kernel
theorem dX2_append_16 : decode cX2_append 16 = .ok (.getfield 22, 3) := by decide +kernel
theorem dX2_append_19 : decode cX2_append 19 = .ok (.iload_n 1, 1) := by decide +kernel
theorem dX2_append_20 : decode cX2_append 20 = .ok (.iastore, 1) := by decide +kernel
theorem dX2_append_21 : decode cX2_append 21 = .ok (.aload_n 0, 1) := by decide +kernel
theorem dX2_append_22 : decode cX2_append 22 = .ok (.dup, 1) := by decide +kernel
theorem dX2_append_23 : decode cX2_append 23 = .ok (.getfield 22, 3) := by decide +kernel
theorem dX2_append_26 : decode cX2_append 26 = .ok (.iconst 1, 1) := by decide +kernel
theorem dX2_append_27 : decode cX2_append 27 = .ok (.iadd, 1) := by decide +kernel
theorem dX2_append_28 : decode cX2_append 28 = .ok (.putfield 22, 3) := by decide +kernel
theorem dX2_append_31 : decode cX2_append 31 = .ok (.iconst 1, 1) := by decide +kernel
theorem dX2_append_32 : decode cX2_append 32 = .ok (.ireturn, 1) := by decide +kernel
theorem dX2_read_0 : decode cX2_read 0 = .ok (.aload_n 0, 1) := by decide +kernel
theorem dX2_read_1 : decode cX2_read 1 = .ok (.getfield 12, 3) := by decide +kernel
theorem dX2_read_4 : decode cX2_read 4 = .ok (.invokevirtual 26, 3) := by decide +kernel
theorem dX2_read_7 : decode cX2_read 7 = .ok (.aload_n 0, 1) := by decide +kernel
theorem dX2_read_8 : decode cX2_read 8 = .ok (.iconst 0, 1) := by decide +kernel
theorem dX2_read_9 : decode cX2_read 9 = .ok (.putfield 29, 3) := by decide +kernel
theorem dX2_read_12 : decode cX2_read 12 = .ok (.iconst 0, 1) := by decide +kernel
theorem dX2_read_13 : decode cX2_read 13 = .ok (.istore_n 1, 1) := by decide +kernel
theorem dX2_read_14 : decode cX2_read 14 = .ok (.iload_n 1, 1) := by decide +kernel
theorem dX2_read_15 : decode cX2_read 15 = .ok (.bipush 100, 2) := by decide +kernel
theorem dX2_read_17 : decode cX2_read 17 = .ok (.if_icmp .gt 47, 3) := by decide +kernel
theorem dX2_read_20 : decode cX2_read 20 = .ok (.aload_n 0, 1) := by decide +kernel
theorem dX2_read_21 : decode cX2_read 21 = .ok (.invokevirtual 32, 3) := by decide +kernel
theorem dX2_read_24 : decode cX2_read 24 = .ok (.aload_n 0, 1) := by decide +kernel
theorem dX2_read_25 : decode cX2_read 25 = .ok (.getfield 35, 3) := by decide +kernel
theorem dX2_read_28 : decode cX2_read 28 = .ok (.iconst (-1), 1) := by decide +kernel
theorem dX2_read_29 : decode cX2_read 29 = .ok (.if_icmp .ne 5, 3) := by decide +kernel
theorem dX2_read_32 : decode cX2_read 32 = .ok (.iload_n 1, 1) := by decide +kernel
theorem dX2_read_33 : decode cX2_read 33 = .ok (.ireturn, 1) := by decide +kernel
theorem dX2_read_34 : decode cX2_read 34 = .ok (.aload_n 0, 1) := by decide +kernel
theorem dX2_read_35 : decode cX2_read 35 = .ok (.iload_n 1, 1) := by decide +kernel
theorem dX2_read_36 : decode cX2_read 36 = .ok (.ifCond .ne 7, 3) := by decide +kernel
theorem dX2_read_39 : decode cX2_read 39 = .ok (.iconst 1, 1) := by decide +kernel
theorem dX2_read_40 : decode cX2_read 40 = .ok (.goto 4, 3) := by decide +kernel
theorem dX2_read_43 : decode cX2_read 43 = .ok (.iconst 0, 1) := by decide +kernel
theorem dX2_read_44 : decode cX2_read 44 = .ok (.invokevirtual 38, 3) := by decide +kernel
theorem dX2_read_47 : decode cX2_read 47 = .ok (.ifCond .ne 11, 3) := by decide +kernel
theorem dX2_read_50 : decode cX2_read 50 = .ok (.bipush (-10), 2) := by decide +kernel
theorem dX2_read_52 : decode cX2_read 52 = .ok (.aload_n 0, 1) := by decide +kernel
theorem dX2_read_53 : decode cX2_read 53 = .ok (.getfield 42, 3) := by decide +kernel
theorem dX2_read_56 : decode cX2_read 56 = .ok (.isub, 1) := by decide +kernel
theorem dX2_read_57 : decode cX2_read 57 = .ok (.ireturn, 1) := by decide +kernel
theorem dX2_read_58 : decode cX2_read 58 = .ok (.iinc 1 1, 3) := by decide +kernel
theorem dX2_read_61 : decode cX2_read 61 = .ok (.goto (-47), 3) := by decide +kernel
theorem dX2_read_64 : decode cX2_read 64 = .ok (.bipush (-10), 2) := by decide +kernel
theorem dX2_read_66 : decode cX2_read 66 = .ok (.aload_n 0, 1) := by decide +kernel
theorem dX2_read_67 : decode cX2_read 67 = .ok (.getfield 42, 3) := by decide +kernel
theorem dX2_read_70 : decode cX2_read 70 = .ok (.isub, 1) := by decide +kernel
theorem dX2_read_71 : decode cX2_read 71 = .ok (.ireturn, 1) := by decide +kernel
theorem dX2_readItem_0 : decode cX2_readItem 0 = .ok (.aload_n 0, 1) := by decide +kernel
theorem dX2_readItem_1 : decode cX2_readItem 1 = .ok (.getfield 35, 3) := by decide +kernel
theorem dX2_readItem_4 : decode cX2_readItem 4 = .ok (.lookupswitch 106 #[(99, 83), (100, 95), (108, 101), (110, 60), (111, 77), (119, 89)], 60) := by decide +kernel
theorem dX2_readItem_64 : decode cX2_readItem 64 = .ok (.iload_n 1, 1) := by decide +kernel
theorem dX2_readItem_65 : decode cX2_readItem 65 = .ok (.ifCond .eq 14, 3) := by decide +kernel
theorem dX2_readItem_68 : decode cX2_readItem 68 = .ok (.aload_n 0, 1) := by decide +kernel
theorem dX2_readItem_69 : decode cX2_readItem 69 = .ok (.invokevirtual 45, 3) := by decide +kernel
theorem dX2_readItem_72 : decode cX2_readItem 72 = .ok (.ifCond .eq 7, 3) := by decide +kernel
theorem dX2_readItem_75 : decode cX2_readItem 75 = .ok (.iconst 1, 1) := by decide +kernel
theorem dX2_readItem_76 : decode cX2_readItem 76 = .ok (.goto 4, 3) := by decide +kernel
theorem dX2_readItem_79 : decode cX2_readItem 79 = .ok (.iconst 0, 1) := by decide +kernel
theorem dX2_readItem_80 : decode cX2_readItem 80 = .ok (.ireturn, 1) := by decide +kernel
theorem dX2_readItem_81 : decode cX2_readItem 81 = .ok (.aload_n 0, 1) := by decide +kernel
theorem dX2_readItem_82 : decode cX2_readItem 82 = .ok (.iconst 0, 1) := by decide +kernel
theorem dX2_readItem_83 : decode cX2_readItem 83 = .ok (.invokevirtual 49, 3) := by decide +kernel
theorem dX2_readItem_86 : decode cX2_readItem 86 = .ok (.ireturn, 1) := by decide +kernel
theorem dX2_readItem_87 : decode cX2_readItem 87 = .ok (.aload_n 0, 1) := by decide +kernel
theorem dX2_readItem_88 : decode cX2_readItem 88 = .ok (.iconst 1, 1) := by decide +kernel
theorem dX2_readItem_89 : decode cX2_readItem 89 = .ok (.invokevirtual 49, 3) := by decide +kernel
theorem dX2_readItem_92 : decode cX2_readItem 92 = .ok (.ireturn, 1) := by decide +kernel
theorem dX2_readItem_93 : decode cX2_readItem 93 = .ok (.aload_n 0, 1) := by decide +kernel
theorem dX2_readItem_94 : decode cX2_readItem 94 = .ok (.iconst 2, 1) := by decide +kernel
theorem dX2_readItem_95 : decode cX2_readItem 95 = .ok (.invokevirtual 49, 3) := by decide +kernel
theorem dX2_readItem_98 : decode cX2_readItem 98 = .ok (.ireturn, 1) := by decide +kernel
theorem dX2_readItem_99 : decode cX2_readItem 99 = .ok (.aload_n 0, 1) := by decide +kernel
theorem dX2_readItem_100 : decode cX2_readItem 100 = .ok (.iconst 3, 1) := by decide +kernel
theorem dX2_readItem_101 : decode cX2_readItem 101 = .ok (.invokevirtual 49, 3) := by decide +kernel
theorem dX2_readItem_104 : decode cX2_readItem 104 = .ok (.ireturn, 1) := by decide +kernel
theorem dX2_readItem_105 : decode cX2_readItem 105 = .ok (.aload_n 0, 1) := by decide +kernel
theorem dX2_readItem_106 : decode cX2_readItem 106 = .ok (.invokevirtual 53, 3) := by decide +kernel
theorem dX2_readItem_109 : decode cX2_readItem 109 = .ok (.ireturn, 1) := by decide +kernel
theorem dX2_readItem_110 : decode cX2_readItem 110 = .ok (.iconst 0, 1) := by decide +kernel
theorem dX2_readItem_111 : decode cX2_readItem 111 = .ok (.ireturn, 1) := by decide +kernel
theorem dX2_readNodes_0 : decode cX2_readNodes 0 = .ok (.aload_n 0, 1) := by decide +kernel
theorem dX2_readNodes_1 : decode cX2_readNodes 1 = .ok (.iconst 2, 1) := by decide +kernel
theorem dX2_readNodes_2 : decode cX2_readNodes 2 = .ok (.bipush 7, 2) := by decide +kernel
theorem dX2_readNodes_4 : decode cX2_readNodes 4 = .ok (.invokevirtual 56, 3) := by decide +kernel
theorem dX2_readNodes_7 : decode cX2_readNodes 7 = .ok (.istore_n 1, 1) := by decide +kernel
theorem dX2_readNodes_8 : decode cX2_readNodes 8 = .ok (.iload_n 1, 1) := by decide +kernel
theorem dX2_readNodes_9 : decode cX2_readNodes 9 = .ok (.ifCond .ge 5, 3) := by decide +kernel
theorem dX2_readNodes_12 : decode cX2_readNodes 12 = .ok (.iconst 0, 1) := by decide +kernel
theorem dX2_readNodes_13 : decode cX2_readNodes 13 = .ok (.ireturn, 1) := by decide +kernel
theorem dX2_readNodes_14 : decode cX2_readNodes 14 = .ok (.aload_n 0, 1) := by decide +kernel
theorem dX2_readNodes_15 : decode cX2_readNodes 15 = .ok (.getfield 12, 3) := by decide +kernel
theorem dX2_readNodes_18 : decode cX2_readNodes 18 = .ok (.iload_n 1, 1) := by decide +kernel
theorem dX2_readNodes_19 : decode cX2_readNodes 19 = .ok (.putfield 60, 3) := by decide +kernel
theorem dX2_readNodes_22 : decode cX2_readNodes 22 = .ok (.aload_n 0, 1) := by decide +kernel
theorem dX2_readNodes_23 : decode cX2_readNodes 23 = .ok (.invokevirtual 63, 3) := by decide +kernel
theorem dX2_readNodes_26 : decode cX2_readNodes 26 = .ok (.ireturn, 1) := by decide +kernel
theorem dX2_readContact_0 : decode cX2_readContact 0 = .ok (.aload_n 0, 1) := by decide +kernel
theorem dX2_readContact_1 : decode cX2_readContact 1 = .ok (.getfield 12, 3) := by decide +kernel
theorem dX2_readContact_4 : decode cX2_readContact 4 = .ok (.getfield 66, 3) := by decide +kernel
theorem dX2_readContact_7 : decode cX2_readContact 7 = .ok (.bipush 9, 2) := by decide +kernel
theorem dX2_readContact_9 : decode cX2_readContact 9 = .ok (.if_icmp .lt 5, 3) := by decide +kernel
theorem dX2_readContact_12 : decode cX2_readContact 12 = .ok (.iconst 0, 1) := by decide +kernel
theorem dX2_readContact_13 : decode cX2_readContact 13 = .ok (.ireturn, 1) := by decide +kernel
theorem dX2_readContact_14 : decode cX2_readContact 14 = .ok (.aload_n 0, 1) := by decide +kernel
theorem dX2_readContact_15 : decode cX2_readContact 15 = .ok (.iconst 0, 1) := by decide +kernel
theorem dX2_readContact_16 : decode cX2_readContact 16 = .ok (.aload_n 0, 1) := by decide +kernel
theorem dX2_readContact_17 : decode cX2_readContact 17 = .ok (.getfield 12, 3) := by decide +kernel
theorem dX2_readContact_20 : decode cX2_readContact 20 = .ok (.getfield 60, 3) := by decide +kernel
theorem dX2_readContact_23 : decode cX2_readContact 23 = .ok (.iconst 1, 1) := by decide +kernel
theorem dX2_readContact_24 : decode cX2_readContact 24 = .ok (.isub, 1) := by decide +kernel
theorem dX2_readContact_25 : decode cX2_readContact 25 = .ok (.invokevirtual 56, 3) := by decide +kernel
theorem dX2_readContact_28 : decode cX2_readContact 28 = .ok (.istore_n 2, 1) := by decide +kernel
theorem dX2_readContact_29 : decode cX2_readContact 29 = .ok (.iload_n 2, 1) := by decide +kernel
theorem dX2_readContact_30 : decode cX2_readContact 30 = .ok (.ifCond .ge 5, 3) := by decide +kernel
theorem dX2_readContact_33 : decode cX2_readContact 33 = .ok (.iconst 0, 1) := by decide +kernel
theorem dX2_readContact_34 : decode cX2_readContact 34 = .ok (.ireturn, 1) := by decide +kernel
theorem dX2_readContact_35 : decode cX2_readContact 35 = .ok (.aload_n 0, 1) := by decide +kernel
theorem dX2_readContact_36 : decode cX2_readContact 36 = .ok (.iconst 0, 1) := by decide +kernel
theorem dX2_readContact_37 : decode cX2_readContact 37 = .ok (.aload_n 0, 1) := by decide +kernel
theorem dX2_readContact_38 : decode cX2_readContact 38 = .ok (.getfield 12, 3) := by decide +kernel
theorem dX2_readContact_41 : decode cX2_readContact 41 = .ok (.getfield 60, 3) := by decide +kernel
theorem dX2_readContact_44 : decode cX2_readContact 44 = .ok (.iconst 1, 1) := by decide +kernel
theorem dX2_readContact_45 : decode cX2_readContact 45 = .ok (.isub, 1) := by decide +kernel
theorem dX2_readContact_46 : decode cX2_readContact 46 = .ok (.invokevirtual 56, 3) := by decide +kernel
theorem dX2_readContact_49 : decode cX2_readContact 49 = .ok (.istore_n 3, 1) := by decide +kernel
theorem dX2_readContact_50 : decode cX2_readContact 50 = .ok (.iload_n 3, 1) := by decide +kernel
theorem dX2_readContact_51 : decode cX2_readContact 51 = .ok (.ifCond .lt 8, 3) := by decide +kernel
theorem dX2_readContact_54 : decode cX2_readContact 54 = .ok (.iload_n 3, 1) := by decide +kernel
theorem dX2_readContact_55 : decode cX2_readContact 55 = .ok (.iload_n 2, 1) := by decide +kernel
theorem dX2_readContact_56 : decode cX2_readContact 56 = .ok (.if_icmp .ne 5, 3) := by decide +kernel
theorem dX2_readContact_59 : decode cX2_readContact 59 = .ok (.iconst 0, 1) := by decide +kernel
theorem dX2_readContact_60 : decode cX2_readContact 60 = .ok (.ireturn, 1) := by decide +kernel
theorem dX2_readContact_61 : decode cX2_readContact 61 = .ok (.bipush (-9), 2) := by decide +kernel
theorem dX2_readContact_63 : decode cX2_readContact 63 = .ok (.istore 4, 2) := by decide +kernel
theorem dX2_readContact_65 : decode cX2_readContact 65 = .ok (.iload_n 1, 1) := by decide +kernel
theorem dX2_readContact_66 : decode cX2_readContact 66 = .ok (.iconst 1, 1) := by decide +kernel
theorem dX2_readContact_67 : decode cX2_readContact 67 = .ok (.if_icmp .gt 18, 3) := by decide +kernel
theorem dX2_readContact_70 : decode cX2_readContact 70 = .ok (.aload_n 0, 1) := by decide +kernel
theorem dX2_readContact_71 : decode cX2_readContact 71 = .ok (.iconst 0, 1) := by decide +kernel
theorem dX2_readContact_72 : decode cX2_readContact 72 = .ok (.iconst 3, 1) := by decide +kernel
theorem dX2_readContact_73 : decode cX2_readContact 73 = .ok (.invokevirtual 56, 3) := by decide +kernel
theorem dX2_readContact_76 : decode cX2_readContact 76 = .ok (.istore 4, 2) := by decide +kernel
theorem dX2_readContact_78 : decode cX2_readContact 78 = .ok (.iload 4, 2) := by decide +kernel
theorem dX2_readContact_80 : decode cX2_readContact 80 = .ok (.ifCond .ge 5, 3) := by decide +kernel
theorem dX2_readContact_83 : decode cX2_readContact 83 = .ok (.iconst 0, 1) := by decide +kernel
theorem dX2_readContact_84 : decode cX2_readContact 84 = .ok (.ireturn, 1) := by decide +kernel
theorem dX2_readContact_85 : decode cX2_readContact 85 = .ok (.aload_n 0, 1) := by decide +kernel
theorem dX2_readContact_86 : decode cX2_readContact 86 = .ok (.getfield 12, 3) := by decide +kernel
theorem dX2_readContact_89 : decode cX2_readContact 89 = .ok (.iload_n 1, 1) := by decide +kernel
theorem dX2_readContact_90 : decode cX2_readContact 90 = .ok (.iload_n 2, 1) := by decide +kernel
theorem dX2_readContact_91 : decode cX2_readContact 91 = .ok (.iload_n 3, 1) := by decide +kernel
theorem dX2_readContact_92 : decode cX2_readContact 92 = .ok (.iload 4, 2) := by decide +kernel
theorem dX2_readContact_94 : decode cX2_readContact 94 = .ok (.invokevirtual 69, 3) := by decide +kernel
theorem dX2_readContact_97 : decode cX2_readContact 97 = .ok (.aload_n 0, 1) := by decide +kernel
theorem dX2_readContact_98 : decode cX2_readContact 98 = .ok (.invokevirtual 63, 3) := by decide +kernel
theorem dX2_readContact_101 : decode cX2_readContact 101 = .ok (.ireturn, 1) := by decide +kernel
theorem dX2_readLoad_0 : decode cX2_readLoad 0 = .ok (.aload_n 0, 1) := by decide +kernel
theorem dX2_readLoad_1 : decode cX2_readLoad 1 = .ok (.getfield 12, 3) := by decide +kernel
theorem dX2_readLoad_4 : decode cX2_readLoad 4 = .ok (.getfield 73, 3) := by decide +kernel
theorem dX2_readLoad_7 : decode cX2_readLoad 7 = .ok (.iconst 3, 1) := by decide +kernel
theorem dX2_readLoad_8 : decode cX2_readLoad 8 = .ok (.if_icmp .lt 5, 3) := by decide +kernel
theorem dX2_readLoad_11 : decode cX2_readLoad 11 = .ok (.iconst 0, 1) := by decide +kernel
theorem dX2_readLoad_12 : decode cX2_readLoad 12 = .ok (.ireturn, 1) := by decide +kernel
theorem dX2_readLoad_13 : decode cX2_readLoad 13 = .ok (.aload_n 0, 1) := by decide +kernel
theorem dX2_readLoad_14 : decode cX2_readLoad 14 = .ok (.iconst 1, 1) := by decide +kernel
theorem dX2_readLoad_15 : decode cX2_readLoad 15 = .ok (.aload_n 0, 1) := by decide +kernel
theorem dX2_readLoad_16 : decode cX2_readLoad 16 = .ok (.getfield 12, 3) := by decide +kernel
theorem dX2_readLoad_19 : decode cX2_readLoad 19 = .ok (.getfield 60, 3) := by decide +kernel
theorem dX2_readLoad_22 : decode cX2_readLoad 22 = .ok (.iconst 1, 1) := by decide +kernel
theorem dX2_readLoad_23 : decode cX2_readLoad 23 = .ok (.isub, 1) := by decide +kernel
theorem dX2_readLoad_24 : decode cX2_readLoad 24 = .ok (.invokevirtual 56, 3) := by decide +kernel
theorem dX2_readLoad_27 : decode cX2_readLoad 27 = .ok (.istore_n 1, 1) := by decide +kernel
theorem dX2_readLoad_28 : decode cX2_readLoad 28 = .ok (.iload_n 1, 1) := by decide +kernel
theorem dX2_readLoad_29 : decode cX2_readLoad 29 = .ok (.ifCond .lt 14, 3) := by decide +kernel
theorem dX2_readLoad_32 : decode cX2_readLoad 32 = .ok (.aload_n 0, 1) := by decide +kernel
theorem dX2_readLoad_33 : decode cX2_readLoad 33 = .ok (.getfield 12, 3) := by decide +kernel
theorem dX2_readLoad_36 : decode cX2_readLoad 36 = .ok (.iload_n 1, 1) := by decide +kernel
theorem dX2_readLoad_37 : decode cX2_readLoad 37 = .ok (.invokevirtual 76, 3) := by decide +kernel
theorem dX2_readLoad_40 : decode cX2_readLoad 40 = .ok (.ifCond .eq 5, 3) := by decide +kernel
theorem dX2_readLoad_43 : decode cX2_readLoad 43 = .ok (.iconst 0, 1) := by decide +kernel
theorem dX2_readLoad_44 : decode cX2_readLoad 44 = .ok (.ireturn, 1) := by decide +kernel
theorem dX2_readLoad_45 : decode cX2_readLoad 45 = .ok (.aload_n 0, 1) := by decide +kernel
theorem dX2_readLoad_46 : decode cX2_readLoad 46 = .ok (.getfield 12, 3) := by decide +kernel
theorem dX2_readLoad_49 : decode cX2_readLoad 49 = .ok (.iload_n 1, 1) := by decide +kernel
theorem dX2_readLoad_50 : decode cX2_readLoad 50 = .ok (.invokevirtual 79, 3) := by decide +kernel
theorem dX2_readLoad_53 : decode cX2_readLoad 53 = .ok (.aload_n 0, 1) := by decide +kernel
theorem dX2_readLoad_54 : decode cX2_readLoad 54 = .ok (.invokevirtual 63, 3) := by decide +kernel
theorem dX2_readLoad_57 : decode cX2_readLoad 57 = .ok (.ireturn, 1) := by decide +kernel
theorem dX2_readNumber_0 : decode cX2_readNumber 0 = .ok (.aload_n 0, 1) := by decide +kernel
theorem dX2_readNumber_1 : decode cX2_readNumber 1 = .ok (.invokevirtual 32, 3) := by decide +kernel
theorem dX2_readNumber_4 : decode cX2_readNumber 4 = .ok (.aload_n 0, 1) := by decide +kernel
theorem dX2_readNumber_5 : decode cX2_readNumber 5 = .ok (.getfield 35, 3) := by decide +kernel
theorem dX2_readNumber_8 : decode cX2_readNumber 8 = .ok (.invokestatic 83, 3) := by decide +kernel
theorem dX2_readNumber_11 : decode cX2_readNumber 11 = .ok (.ifCond .ne 6, 3) := by decide +kernel
theorem dX2_readNumber_14 : decode cX2_readNumber 14 = .ok (.bipush (-9), 2) := by decide +kernel
theorem dX2_readNumber_16 : decode cX2_readNumber 16 = .ok (.ireturn, 1) := by decide +kernel
theorem dX2_readNumber_17 : decode cX2_readNumber 17 = .ok (.aload_n 0, 1) := by decide +kernel
theorem dX2_readNumber_18 : decode cX2_readNumber 18 = .ok (.getfield 35, 3) := by decide +kernel
theorem dX2_readNumber_21 : decode cX2_readNumber 21 = .ok (.bipush 48, 2) := by decide +kernel
theorem dX2_readNumber_23 : decode cX2_readNumber 23 = .ok (.isub, 1) := by decide +kernel
theorem dX2_readNumber_24 : decode cX2_readNumber 24 = .ok (.istore_n 3, 1) := by decide +kernel
theorem dX2_readNumber_25 : decode cX2_readNumber 25 = .ok (.iload_n 3, 1) := by decide +kernel
theorem dX2_readNumber_26 : decode cX2_readNumber 26 = .ok (.iload_n 1, 1) := by decide +kernel
theorem dX2_readNumber_27 : decode cX2_readNumber 27 = .ok (.if_icmp .lt 12, 3) := by decide +kernel
theorem dX2_readNumber_30 : decode cX2_readNumber 30 = .ok (.iload_n 3, 1) := by decide +kernel
theorem dX2_readNumber_31 : decode cX2_readNumber 31 = .ok (.iload_n 2, 1) := by decide +kernel
theorem dX2_readNumber_32 : decode cX2_readNumber 32 = .ok (.if_icmp .gt 7, 3) := by decide +kernel
theorem dX2_readNumber_35 : decode cX2_readNumber 35 = .ok (.iload_n 3, 1) := by decide +kernel
theorem dX2_readNumber_36 : decode cX2_readNumber 36 = .ok (.goto 5, 3) := by decide +kernel
theorem dX2_readNumber_39 : decode cX2_readNumber 39 = .ok (.bipush (-9), 2) := by decide +kernel
theorem dX2_readNumber_41 : decode cX2_readNumber 41 = .ok (.ireturn, 1) := by decide +kernel
theorem dX2_readSemicolon_0 : decode cX2_readSemicolon 0 = .ok (.aload_n 0, 1) := by decide +kernel
theorem dX2_readSemicolon_1 : decode cX2_readSemicolon 1 = .ok (.invokevirtual 32, 3) := by decide +kernel
theorem dX2_readSemicolon_4 : decode cX2_readSemicolon 4 = .ok (.aload_n 0, 1) := by decide +kernel
theorem dX2_readSemicolon_5 : decode cX2_readSemicolon 5 = .ok (.getfield 35, 3) := by decide +kernel
theorem dX2_readSemicolon_8 : decode cX2_readSemicolon 8 = .ok (.bipush 59, 2) := by decide +kernel
theorem dX2_readSemicolon_10 : decode cX2_readSemicolon 10 = .ok (.if_icmp .ne 7, 3) := by decide +kernel
theorem dX2_readSemicolon_13 : decode cX2_readSemicolon 13 = .ok (.iconst 1, 1) := by decide +kernel
theorem dX2_readSemicolon_14 : decode cX2_readSemicolon 14 = .ok (.goto 4, 3) := by decide +kernel
theorem dX2_readSemicolon_17 : decode cX2_readSemicolon 17 = .ok (.iconst 0, 1) := by decide +kernel
theorem dX2_readSemicolon_18 : decode cX2_readSemicolon 18 = .ok (.ireturn, 1) := by decide +kernel
theorem dX2_nextToken_0 : decode cX2_nextToken 0 = .ok (.iconst 0, 1) := by decide +kernel
theorem dX2_nextToken_1 : decode cX2_nextToken 1 = .ok (.istore_n 1, 1) := by decide +kernel
theorem dX2_nextToken_2 : decode cX2_nextToken 2 = .ok (.iload_n 1, 1) := by decide +kernel
theorem dX2_nextToken_3 : decode cX2_nextToken 3 = .ok (.bipush 100, 2) := by decide +kernel
theorem dX2_nextToken_5 : decode cX2_nextToken 5 = .ok (.if_icmp .ge 32, 3) := by decide +kernel
theorem dX2_nextToken_8 : decode cX2_nextToken 8 = .ok (.aload_n 0, 1) := by decide +kernel
theorem dX2_nextToken_9 : decode cX2_nextToken 9 = .ok (.aload_n 0, 1) := by decide +kernel
theorem dX2_nextToken_10 : decode cX2_nextToken 10 = .ok (.getfield 29, 3) := by decide +kernel
theorem dX2_nextToken_13 : decode cX2_nextToken 13 = .ok (.invokevirtual 86, 3) := by decide +kernel
theorem dX2_nextToken_16 : decode cX2_nextToken 16 = .ok (.bipush 32, 2) := by decide +kernel
theorem dX2_nextToken_18 : decode cX2_nextToken 18 = .ok (.if_icmp .ne 19, 3) := by decide +kernel
theorem dX2_nextToken_21 : decode cX2_nextToken 21 = .ok (.aload_n 0, 1) := by decide +kernel
theorem dX2_nextToken_22 : decode cX2_nextToken 22 = .ok (.dup, 1) := by decide +kernel
theorem dX2_nextToken_23 : decode cX2_nextToken 23 = .ok (.getfield 29, 3) := by decide +kernel
theorem dX2_nextToken_26 : decode cX2_nextToken 26 = .ok (.iconst 1, 1) := by decide +kernel
theorem dX2_nextToken_27 : decode cX2_nextToken 27 = .ok (.iadd, 1) := by decide +kernel
theorem dX2_nextToken_28 : decode cX2_nextToken 28 = .ok (.putfield 29, 3) := by decide +kernel
theorem dX2_nextToken_31 : decode cX2_nextToken 31 = .ok (.iinc 1 1, 3) := by decide +kernel
theorem dX2_nextToken_34 : decode cX2_nextToken 34 = .ok (.goto (-32), 3) := by decide +kernel
theorem dX2_nextToken_37 : decode cX2_nextToken 37 = .ok (.aload_n 0, 1) := by decide +kernel
theorem dX2_nextToken_38 : decode cX2_nextToken 38 = .ok (.aload_n 0, 1) := by decide +kernel
theorem dX2_nextToken_39 : decode cX2_nextToken 39 = .ok (.getfield 29, 3) := by decide +kernel
theorem dX2_nextToken_42 : decode cX2_nextToken 42 = .ok (.putfield 42, 3) := by decide +kernel
theorem dX2_nextToken_45 : decode cX2_nextToken 45 = .ok (.aload_n 0, 1) := by decide +kernel
theorem dX2_nextToken_46 : decode cX2_nextToken 46 = .ok (.aload_n 0, 1) := by decide +kernel
theorem dX2_nextToken_47 : decode cX2_nextToken 47 = .ok (.aload_n 0, 1) := by decide +kernel
theorem dX2_nextToken_48 : decode cX2_nextToken 48 = .ok (.getfield 29, 3) := by decide +kernel
theorem dX2_nextToken_51 : decode cX2_nextToken 51 = .ok (.invokevirtual 86, 3) := by decide +kernel
theorem dX2_nextToken_54 : decode cX2_nextToken 54 = .ok (.putfield 35, 3) := by decide +kernel
theorem dX2_nextToken_57 : decode cX2_nextToken 57 = .ok (.aload_n 0, 1) := by decide +kernel
theorem dX2_nextToken_58 : decode cX2_nextToken 58 = .ok (.getfield 35, 3) := by decide +kernel
theorem dX2_nextToken_61 : decode cX2_nextToken 61 = .ok (.iconst (-1), 1) := by decide +kernel
theorem dX2_nextToken_62 : decode cX2_nextToken 62 = .ok (.if_icmp .ne 4, 3) := by decide +kernel
theorem dX2_nextToken_65 : decode cX2_nextToken 65 = .ok (.return_, 1) := by decide +kernel
theorem dX2_nextToken_66 : decode cX2_nextToken 66 = .ok (.aload_n 0, 1) := by decide +kernel
theorem dX2_nextToken_67 : decode cX2_nextToken 67 = .ok (.dup, 1) := by decide +kernel
theorem dX2_nextToken_68 : decode cX2_nextToken 68 = .ok (.getfield 29, 3) := by decide +kernel
theorem dX2_nextToken_71 : decode cX2_nextToken 71 = .ok (.iconst 1, 1) := by decide +kernel
theorem dX2_nextToken_72 : decode cX2_nextToken 72 = .ok (.iadd, 1) := by decide +kernel
theorem dX2_nextToken_73 : decode cX2_nextToken 73 = .ok (.putfield 29, 3) := by decide +kernel
theorem dX2_nextToken_76 : decode cX2_nextToken 76 = .ok (.aload_n 0, 1) := by decide +kernel
theorem dX2_nextToken_77 : decode cX2_nextToken 77 = .ok (.getfield 35, 3) := by decide +kernel
theorem dX2_nextToken_80 : decode cX2_nextToken 80 = .ok (.invokestatic 83, 3) := by decide +kernel
theorem dX2_nextToken_83 : decode cX2_nextToken 83 = .ok (.ifCond .ne 4, 3) := by decide +kernel
theorem dX2_nextToken_86 : decode cX2_nextToken 86 = .ok (.return_, 1) := by decide +kernel
theorem dX2_nextToken_87 : decode cX2_nextToken 87 = .ok (.iconst 0, 1) := by decide +kernel
theorem dX2_nextToken_88 : decode cX2_nextToken 88 = .ok (.istore_n 1, 1) := by decide +kernel
theorem dX2_nextToken_89 : decode cX2_nextToken 89 = .ok (.iload_n 1, 1) := by decide +kernel
theorem dX2_nextToken_90 : decode cX2_nextToken 90 = .ok (.bipush 100, 2) := by decide +kernel
theorem dX2_nextToken_92 : decode cX2_nextToken 92 = .ok (.if_icmp .ge 39, 3) := by decide +kernel
theorem dX2_nextToken_95 : decode cX2_nextToken 95 = .ok (.aload_n 0, 1) := by decide +kernel
theorem dX2_nextToken_96 : decode cX2_nextToken 96 = .ok (.aload_n 0, 1) := by decide +kernel
theorem dX2_nextToken_97 : decode cX2_nextToken 97 = .ok (.getfield 29, 3) := by decide +kernel
theorem dX2_nextToken_100 : decode cX2_nextToken 100 = .ok (.invokevirtual 86, 3) := by decide +kernel
theorem dX2_nextToken_103 : decode cX2_nextToken 103 = .ok (.invokestatic 83, 3) := by decide +kernel
theorem dX2_nextToken_106 : decode cX2_nextToken 106 = .ok (.ifCond .eq 25, 3) := by decide +kernel
theorem dX2_nextToken_109 : decode cX2_nextToken 109 = .ok (.aload_n 0, 1) := by decide +kernel
theorem dX2_nextToken_110 : decode cX2_nextToken 110 = .ok (.dup, 1) := by decide +kernel
theorem dX2_nextToken_111 : decode cX2_nextToken 111 = .ok (.getfield 29, 3) := by decide +kernel
theorem dX2_nextToken_114 : decode cX2_nextToken 114 = .ok (.iconst 1, 1) := by decide +kernel
theorem dX2_nextToken_115 : decode cX2_nextToken 115 = .ok (.iadd, 1) := by decide +kernel
theorem dX2_nextToken_116 : decode cX2_nextToken 116 = .ok (.putfield 29, 3) := by decide +kernel
theorem dX2_nextToken_119 : decode cX2_nextToken 119 = .ok (.aload_n 0, 1) := by decide +kernel
theorem dX2_nextToken_120 : decode cX2_nextToken 120 = .ok (.bipush (-2), 2) := by decide +kernel
theorem dX2_nextToken_122 : decode cX2_nextToken 122 = .ok (.putfield 35, 3) := by decide +kernel
theorem dX2_nextToken_125 : decode cX2_nextToken 125 = .ok (.iinc 1 1, 3) := by decide +kernel
theorem dX2_nextToken_128 : decode cX2_nextToken 128 = .ok (.goto (-39), 3) := by decide +kernel
theorem dX2_nextToken_131 : decode cX2_nextToken 131 = .ok (.return_, 1) := by decide +kernel
theorem dX2_letterAt_0 : decode cX2_letterAt 0 = .ok (.iload_n 1, 1) := by decide +kernel
theorem dX2_letterAt_1 : decode cX2_letterAt 1 = .ok (.ifCond .lt 26, 3) := by decide +kernel
theorem dX2_letterAt_4 : decode cX2_letterAt 4 = .ok (.iload_n 1, 1) := by decide +kernel
theorem dX2_letterAt_5 : decode cX2_letterAt 5 = .ok (.aload_n 0, 1) := by decide +kernel
theorem dX2_letterAt_6 : decode cX2_letterAt 6 = .ok (.getfield 22, 3) := by decide +kernel
theorem dX2_letterAt_9 : decode cX2_letterAt 9 = .ok (.if_icmp .ge 18, 3) := by decide +kernel
theorem dX2_letterAt_12 : decode cX2_letterAt 12 = .ok (.iload_n 1, 1) := by decide +kernel
theorem dX2_letterAt_13 : decode cX2_letterAt 13 = .ok (.bipush 100, 2) := by decide +kernel
theorem dX2_letterAt_15 : decode cX2_letterAt 15 = .ok (.if_icmp .ge 12, 3) := by decide +kernel
theorem dX2_letterAt_18 : decode cX2_letterAt 18 = .ok (.aload_n 0, 1) := by decide +kernel
theorem dX2_letterAt_19 : decode cX2_letterAt 19 = .ok (.getfield 18, 3) := by decide +kernel
theorem dX2_letterAt_22 : decode cX2_letterAt 22 = .ok (.iload_n 1, 1) := by decide +kernel
theorem dX2_letterAt_23 : decode cX2_letterAt 23 = .ok (.iaload, 1) := by decide +kernel
theorem dX2_letterAt_24 : decode cX2_letterAt 24 = .ok (.goto 4, 3) := by decide +kernel
theorem dX2_letterAt_27 : decode cX2_letterAt 27 = .ok (.iconst (-1), 1) := by decide +kernel
theorem dX2_letterAt_28 : decode cX2_letterAt 28 = .ok (.ireturn, 1) := by decide +kernel
theorem dX2_isDigit_0 : decode cX2_isDigit 0 = .ok (.iload_n 0, 1) := by decide +kernel
theorem dX2_isDigit_1 : decode cX2_isDigit 1 = .ok (.bipush 48, 2) := by decide +kernel
theorem dX2_isDigit_3 : decode cX2_isDigit 3 = .ok (.if_icmp .lt 13, 3) := by decide +kernel
theorem dX2_isDigit_6 : decode cX2_isDigit 6 = .ok (.iload_n 0, 1) := by decide +kernel
theorem dX2_isDigit_7 : decode cX2_isDigit 7 = .ok (.bipush 57, 2) := by decide +kernel
theorem dX2_isDigit_9 : decode cX2_isDigit 9 = .ok (.if_icmp .gt 7, 3) := by decide +kernel
theorem dX2_isDigit_12 : decode cX2_isDigit 12 = .ok (.iconst 1, 1) := by decide +kernel
theorem dX2_isDigit_13 : decode cX2_isDigit 13 = .ok (.goto 4, 3) := by decide +kernel
theorem dX2_isDigit_16 : decode cX2_isDigit 16 = .ok (.iconst 0, 1) := by decide +kernel
theorem dX2_isDigit_17 : decode cX2_isDigit 17 = .ok (.ireturn, 1) := by decide +kernel
theorem dX3_init_0 : decode cX3_init 0 = .ok (.aload_n 0, 1) := by decide +kernel
theorem dX3_init_1 : decode cX3_init 1 = .ok (.invokespecial 3, 3) := by decide +kernel
theorem dX3_init_4 : decode cX3_init 4 = .ok (.aload_n 0, 1) := by decide +kernel
theorem dX3_init_5 : decode cX3_init 5 = .ok (.bipush 6, 2) := by decide +kernel
theorem dX3_init_7 : decode cX3_init 7 = .ok (.newarray .int, 2) := by decide +kernel
theorem dX3_init_9 : decode cX3_init 9 = .ok (.putfield 9, 3) := by decide +kernel
theorem dX3_init_12 : decode cX3_init 12 = .ok (.aload_n 0, 1) := by decide +kernel
theorem dX3_init_13 : decode cX3_init 13 = .ok (.bipush 6, 2) := by decide +kernel
theorem dX3_init_15 : decode cX3_init 15 = .ok (.newarray .int, 2) := by decide +kernel
theorem dX3_init_17 : decode cX3_init 17 = .ok (.putfield 15, 3) := by decide +kernel
theorem dX3_init_20 : decode cX3_init 20 = .ok (.aload_n 0, 1) := by decide +kernel
theorem dX3_init_21 : decode cX3_init 21 = .ok (.bipush 6, 2) := by decide +kernel
theorem dX3_init_23 : decode cX3_init 23 = .ok (.newarray .int, 2) := by decide +kernel
theorem dX3_init_25 : decode cX3_init 25 = .ok (.putfield 18, 3) := by decide +kernel
theorem dX3_init_28 : decode cX3_init 28 = .ok (.return_, 1) := by decide +kernel
theorem dX3_append_0 : decode cX3_append 0 = .ok (.aload_n 0, 1) := by decide +kernel
theorem dX3_append_1 : decode cX3_append 1 = .ok (.getfield 21, 3) := by decide +kernel
theorem dX3_append_4 : decode cX3_append 4 = .ok (.bipush 6, 2) := by decide +kernel
theorem dX3_append_6 : decode cX3_append 6 = .ok (.if_icmp .lt 5, 3) := by decide +kernel
theorem dX3_append_9 : decode cX3_append 9 = .ok (.iconst 0, 1) := by decide +kernel
theorem dX3_append_10 : decode cX3_append 10 = .ok (.ireturn, 1) := by decide +kernel
theorem dX3_append_11 : decode cX3_append 11 = .ok (.aload_n 0, 1) := by decide +kernel
theorem dX3_append_12 : decode cX3_append 12 = .ok (.getfield 9, 3) := by decide +kernel
theorem dX3_append_15 : decode cX3_append 15 = .ok (.aload_n 0, 1) := by decide +kernel
theorem dX3_append_16 : decode cX3_append 16 = .ok (.getfield 21, 3) := by decide +kernel
theorem dX3_append_19 : decode cX3_append 19 = .ok (.iload_n 1, 1) := by decide +kernel
theorem dX3_append_20 : decode cX3_append 20 = .ok (.iastore, 1) := by decide +kernel
theorem dX3_append_21 : decode cX3_append 21 = .ok (.aload_n 0, 1) := by decide +kernel
theorem dX3_append_22 : decode cX3_append 22 = .ok (.getfield 15, 3) := by decide +kernel
theorem dX3_append_25 : decode cX3_append 25 = .ok (.aload_n 0, 1) := by decide +kernel
theorem dX3_append_26 : decode cX3_append 26 = .ok (.getfield 21, 3) := by decide +kernel
theorem dX3_append_29 : decode cX3_append 29 = .ok (.iload_n 2, 1) := by decide +kernel
theorem dX3_append_30 : decode cX3_append 30 = .ok (.iastore, 1) := by decide +kernel
theorem dX3_append_31 : decode cX3_append 31 = .ok (.aload_n 0, 1) := by decide +kernel
theorem dX3_append_32 : decode cX3_append 32 = .ok (.getfield 18, 3) := by decide +kernel
theorem dX3_append_35 : decode cX3_append 35 = .ok (.aload_n 0, 1) := by decide +kernel
theorem dX3_append_36 : decode cX3_append 36 = .ok (.getfield 21, 3) := by decide +kernel
theorem dX3_append_39 : decode cX3_append 39 = .ok (.iload_n 3, 1) := by decide +kernel
theorem dX3_append_40 : decode cX3_append 40 = .ok (.iastore, 1) := by decide +kernel
theorem dX3_append_41 : decode cX3_append 41 = .ok (.aload_n 0, 1) := by decide +kernel
theorem dX3_append_42 : decode cX3_append 42 = .ok (.dup, 1) := by decide +kernel
theorem dX3_append_43 : decode cX3_append 43 = .ok (.getfield 21, 3) := by decide +kernel
theorem dX3_append_46 : decode cX3_append 46 = .ok (.iconst 1, 1) := by decide +kernel
theorem dX3_append_47 : decode cX3_append 47 = .ok (.iadd, 1) := by decide +kernel
theorem dX3_append_48 : decode cX3_append 48 = .ok (.putfield 21, 3) := by decide +kernel
theorem dX3_append_51 : decode cX3_append 51 = .ok (.iconst 1, 1) := by decide +kernel
theorem dX3_append_52 : decode cX3_append 52 = .ok (.ireturn, 1) := by decide +kernel
theorem dX3_agrees_0 : decode cX3_agrees 0 = .ok (.iconst 0, 1) := by decide +kernel
theorem dX3_agrees_1 : decode cX3_agrees 1 = .ok (.istore_n 2, 1) := by decide +kernel
theorem dX3_agrees_2 : decode cX3_agrees 2 = .ok (.iload_n 2, 1) := by decide +kernel
theorem dX3_agrees_3 : decode cX3_agrees 3 = .ok (.aload_n 0, 1) := by decide +kernel
theorem dX3_agrees_4 : decode cX3_agrees 4 = .ok (.getfield 21, 3) := by decide +kernel
theorem dX3_agrees_7 : decode cX3_agrees 7 = .ok (.if_icmp .ge 39, 3) := by decide +kernel
theorem dX3_agrees_10 : decode cX3_agrees 10 = .ok (.aload_n 1, 1) := by decide +kernel
theorem dX3_agrees_11 : decode cX3_agrees 11 = .ok (.aload_n 0, 1) := by decide +kernel
theorem dX3_agrees_12 : decode cX3_agrees 12 = .ok (.getfield 9, 3) := by decide +kernel
theorem dX3_agrees_15 : decode cX3_agrees 15 = .ok (.iload_n 2, 1) := by decide +kernel
theorem dX3_agrees_16 : decode cX3_agrees 16 = .ok (.iaload, 1) := by decide +kernel
theorem dX3_agrees_17 : decode cX3_agrees 17 = .ok (.invokevirtual 25, 3) := by decide +kernel
theorem dX3_agrees_20 : decode cX3_agrees 20 = .ok (.aload_n 0, 1) := by decide +kernel
theorem dX3_agrees_21 : decode cX3_agrees 21 = .ok (.getfield 15, 3) := by decide +kernel
theorem dX3_agrees_24 : decode cX3_agrees 24 = .ok (.iload_n 2, 1) := by decide +kernel
theorem dX3_agrees_25 : decode cX3_agrees 25 = .ok (.iaload, 1) := by decide +kernel
theorem dX3_agrees_26 : decode cX3_agrees 26 = .ok (.ishr, 1) := by decide +kernel
theorem dX3_agrees_27 : decode cX3_agrees 27 = .ok (.iconst 1, 1) := by decide +kernel
theorem dX3_agrees_28 : decode cX3_agrees 28 = .ok (.iand, 1) := by decide +kernel
theorem dX3_agrees_29 : decode cX3_agrees 29 = .ok (.aload_n 0, 1) := by decide +kernel
theorem dX3_agrees_30 : decode cX3_agrees 30 = .ok (.getfield 18, 3) := by decide +kernel
theorem dX3_agrees_33 : decode cX3_agrees 33 = .ok (.iload_n 2, 1) := by decide +kernel
theorem dX3_agrees_34 : decode cX3_agrees 34 = .ok (.iaload, 1) := by decide +kernel
theorem dX3_agrees_35 : decode cX3_agrees 35 = .ok (.if_icmp .eq 5, 3) := by decide +kernel
theorem dX3_agrees_38 : decode cX3_agrees 38 = .ok (.iconst 0, 1) := by decide +kernel
theorem dX3_agrees_39 : decode cX3_agrees 39 = .ok (.ireturn, 1) := by decide +kernel
theorem dX3_agrees_40 : decode cX3_agrees 40 = .ok (.iinc 2 1, 3) := by decide +kernel
theorem dX3_agrees_43 : decode cX3_agrees 43 = .ok (.goto (-41), 3) := by decide +kernel
theorem dX3_agrees_46 : decode cX3_agrees 46 = .ok (.iconst 1, 1) := by decide +kernel
theorem dX3_agrees_47 : decode cX3_agrees 47 = .ok (.ireturn, 1) := by decide +kernel
theorem dX4_init_0 : decode cX4_init 0 = .ok (.aload_n 0, 1) := by decide +kernel
theorem dX4_init_1 : decode cX4_init 1 = .ok (.invokespecial 3, 3) := by decide +kernel
theorem dX4_init_4 : decode cX4_init 4 = .ok (.aload_n 0, 1) := by decide +kernel
theorem dX4_init_5 : decode cX4_init 5 = .ok (.iconst 3, 1) := by decide +kernel
theorem dX4_init_6 : decode cX4_init 6 = .ok (.newarray .int, 2) := by decide +kernel
theorem dX4_init_8 : decode cX4_init 8 = .ok (.putfield 9, 3) := by decide +kernel
theorem dX4_init_11 : decode cX4_init 11 = .ok (.aload_n 0, 1) := by decide +kernel
theorem dX4_init_12 : decode cX4_init 12 = .ok (.bipush 9, 2) := by decide +kernel
theorem dX4_init_14 : decode cX4_init 14 = .ok (.newarray .int, 2) := by decide +kernel
theorem dX4_init_16 : decode cX4_init 16 = .ok (.putfield 15, 3) := by decide +kernel
theorem dX4_init_19 : decode cX4_init 19 = .ok (.aload_n 0, 1) := by decide +kernel
theorem dX4_init_20 : decode cX4_init 20 = .ok (.bipush 9, 2) := by decide +kernel
theorem dX4_init_22 : decode cX4_init 22 = .ok (.newarray .int, 2) := by decide +kernel
theorem dX4_init_24 : decode cX4_init 24 = .ok (.putfield 18, 3) := by decide +kernel
theorem dX4_init_27 : decode cX4_init 27 = .ok (.aload_n 0, 1) := by decide +kernel
theorem dX4_init_28 : decode cX4_init 28 = .ok (.bipush 9, 2) := by decide +kernel
theorem dX4_init_30 : decode cX4_init 30 = .ok (.newarray .int, 2) := by decide +kernel
theorem dX4_init_32 : decode cX4_init 32 = .ok (.putfield 21, 3) := by decide +kernel
theorem dX4_init_35 : decode cX4_init 35 = .ok (.aload_n 0, 1) := by decide +kernel
theorem dX4_init_36 : decode cX4_init 36 = .ok (.invokevirtual 24, 3) := by decide +kernel
theorem dX4_init_39 : decode cX4_init 39 = .ok (.return_, 1) := by decide +kernel
theorem dX4_reset_0 : decode cX4_reset 0 = .ok (.iconst 0, 1) := by decide +kernel
theorem dX4_reset_1 : decode cX4_reset 1 = .ok (.istore_n 1, 1) := by decide +kernel
theorem dX4_reset_2 : decode cX4_reset 2 = .ok (.iload_n 1, 1) := by decide +kernel
theorem dX4_reset_3 : decode cX4_reset 3 = .ok (.iconst 3, 1) := by decide +kernel
theorem dX4_reset_4 : decode cX4_reset 4 = .ok (.if_icmp .ge 16, 3) := by decide +kernel
theorem dX4_reset_7 : decode cX4_reset 7 = .ok (.aload_n 0, 1) := by decide +kernel
theorem dX4_reset_8 : decode cX4_reset 8 = .ok (.getfield 9, 3) := by decide +kernel
theorem dX4_reset_11 : decode cX4_reset 11 = .ok (.iload_n 1, 1) := by decide +kernel
theorem dX4_reset_12 : decode cX4_reset 12 = .ok (.iconst 0, 1) := by decide +kernel
theorem dX4_reset_13 : decode cX4_reset 13 = .ok (.iastore, 1) := by decide +kernel
theorem dX4_reset_14 : decode cX4_reset 14 = .ok (.iinc 1 1, 3) := by decide +kernel
theorem dX4_reset_17 : decode cX4_reset 17 = .ok (.goto (-15), 3) := by decide +kernel
theorem dX4_reset_20 : decode cX4_reset 20 = .ok (.iconst 0, 1) := by decide +kernel
theorem dX4_reset_21 : decode cX4_reset 21 = .ok (.istore_n 1, 1) := by decide +kernel
theorem dX4_reset_22 : decode cX4_reset 22 = .ok (.iload_n 1, 1) := by decide +kernel
theorem dX4_reset_23 : decode cX4_reset 23 = .ok (.bipush 9, 2) := by decide +kernel
theorem dX4_reset_25 : decode cX4_reset 25 = .ok (.if_icmp .ge 30, 3) := by decide +kernel
theorem dX4_reset_28 : decode cX4_reset 28 = .ok (.aload_n 0, 1) := by decide +kernel
theorem dX4_reset_29 : decode cX4_reset 29 = .ok (.getfield 15, 3) := by decide +kernel
theorem dX4_reset_32 : decode cX4_reset 32 = .ok (.iload_n 1, 1) := by decide +kernel
theorem dX4_reset_33 : decode cX4_reset 33 = .ok (.iconst 4, 1) := by decide +kernel
theorem dX4_reset_34 : decode cX4_reset 34 = .ok (.iastore, 1) := by decide +kernel
theorem dX4_reset_35 : decode cX4_reset 35 = .ok (.aload_n 0, 1) := by decide +kernel
theorem dX4_reset_36 : decode cX4_reset 36 = .ok (.getfield 18, 3) := by decide +kernel
theorem dX4_reset_39 : decode cX4_reset 39 = .ok (.iload_n 1, 1) := by decide +kernel
theorem dX4_reset_40 : decode cX4_reset 40 = .ok (.iconst 0, 1) := by decide +kernel
theorem dX4_reset_41 : decode cX4_reset 41 = .ok (.iastore, 1) := by decide +kernel
theorem dX4_reset_42 : decode cX4_reset 42 = .ok (.aload_n 0, 1) := by decide +kernel
theorem dX4_reset_43 : decode cX4_reset 43 = .ok (.getfield 21, 3) := by decide +kernel
theorem dX4_reset_46 : decode cX4_reset 46 = .ok (.iload_n 1, 1) := by decide +kernel
theorem dX4_reset_47 : decode cX4_reset 47 = .ok (.iconst 0, 1) := by decide +kernel
theorem dX4_reset_48 : decode cX4_reset 48 = .ok (.iastore, 1) := by decide +kernel
theorem dX4_reset_49 : decode cX4_reset 49 = .ok (.iinc 1 1, 3) := by decide +kernel
theorem dX4_reset_52 : decode cX4_reset 52 = .ok (.goto (-30), 3) := by decide +kernel
theorem dX4_reset_55 : decode cX4_reset 55 = .ok (.return_, 1) := by decide +kernel
theorem dX4_takeFrom_0 : decode cX4_takeFrom 0 = .ok (.aload_n 1, 1) := by decide +kernel
theorem dX4_takeFrom_1 : decode cX4_takeFrom 1 = .ok (.getfield 9, 3) := by decide +kernel
theorem dX4_takeFrom_4 : decode cX4_takeFrom 4 = .ok (.iconst 0, 1) := by decide +kernel
theorem dX4_takeFrom_5 : decode cX4_takeFrom 5 = .ok (.aload_n 0, 1) := by decide +kernel
theorem dX4_takeFrom_6 : decode cX4_takeFrom 6 = .ok (.getfield 9, 3) := by decide +kernel
theorem dX4_takeFrom_9 : decode cX4_takeFrom 9 = .ok (.iconst 0, 1) := by decide +kernel
theorem dX4_takeFrom_10 : decode cX4_takeFrom 10 = .ok (.iconst 3, 1) := by decide +kernel
theorem dX4_takeFrom_11 : decode cX4_takeFrom 11 = .ok (.invokestatic 27, 3) := by decide +kernel
theorem dX4_takeFrom_14 : decode cX4_takeFrom 14 = .ok (.aload_n 1, 1) := by decide +kernel
theorem dX4_takeFrom_15 : decode cX4_takeFrom 15 = .ok (.getfield 15, 3) := by decide +kernel
theorem dX4_takeFrom_18 : decode cX4_takeFrom 18 = .ok (.iconst 0, 1) := by decide +kernel
theorem dX4_takeFrom_19 : decode cX4_takeFrom 19 = .ok (.aload_n 0, 1) := by decide +kernel
theorem dX4_takeFrom_20 : decode cX4_takeFrom 20 = .ok (.getfield 15, 3) := by decide +kernel
theorem dX4_takeFrom_23 : decode cX4_takeFrom 23 = .ok (.iconst 0, 1) := by decide +kernel
theorem dX4_takeFrom_24 : decode cX4_takeFrom 24 = .ok (.bipush 9, 2) := by decide +kernel
theorem dX4_takeFrom_26 : decode cX4_takeFrom 26 = .ok (.invokestatic 27, 3) := by decide +kernel
theorem dX4_takeFrom_29 : decode cX4_takeFrom 29 = .ok (.aload_n 1, 1) := by decide +kernel
theorem dX4_takeFrom_30 : decode cX4_takeFrom 30 = .ok (.getfield 18, 3) := by decide +kernel
theorem dX4_takeFrom_33 : decode cX4_takeFrom 33 = .ok (.iconst 0, 1) := by decide +kernel
theorem dX4_takeFrom_34 : decode cX4_takeFrom 34 = .ok (.aload_n 0, 1) := by decide +kernel
theorem dX4_takeFrom_35 : decode cX4_takeFrom 35 = .ok (.getfield 18, 3) := by decide +kernel
theorem dX4_takeFrom_38 : decode cX4_takeFrom 38 = .ok (.iconst 0, 1) := by decide +kernel
theorem dX4_takeFrom_39 : decode cX4_takeFrom 39 = .ok (.bipush 9, 2) := by decide +kernel
theorem dX4_takeFrom_41 : decode cX4_takeFrom 41 = .ok (.invokestatic 27, 3) := by decide +kernel
theorem dX4_takeFrom_44 : decode cX4_takeFrom 44 = .ok (.aload_n 1, 1) := by decide +kernel
theorem dX4_takeFrom_45 : decode cX4_takeFrom 45 = .ok (.getfield 21, 3) := by decide +kernel
theorem dX4_takeFrom_48 : decode cX4_takeFrom 48 = .ok (.iconst 0, 1) := by decide +kernel
theorem dX4_takeFrom_49 : decode cX4_takeFrom 49 = .ok (.aload_n 0, 1) := by decide +kernel
theorem dX4_takeFrom_50 : decode cX4_takeFrom 50 = .ok (.getfield 21, 3) := by decide +kernel
theorem dX4_takeFrom_53 : decode cX4_takeFrom 53 = .ok (.iconst 0, 1) := by decide +kernel
theorem dX4_takeFrom_54 : decode cX4_takeFrom 54 = .ok (.bipush 9, 2) := by decide +kernel
theorem dX4_takeFrom_56 : decode cX4_takeFrom 56 = .ok (.invokestatic 27, 3) := by decide +kernel
theorem dX4_takeFrom_59 : decode cX4_takeFrom 59 = .ok (.return_, 1) := by decide +kernel
theorem dX5_init_0 : decode cX5_init 0 = .ok (.aload_n 0, 1) := by decide +kernel
theorem dX5_init_1 : decode cX5_init 1 = .ok (.invokespecial 3, 3) := by decide +kernel
theorem dX5_init_4 : decode cX5_init 4 = .ok (.aload_n 0, 1) := by decide +kernel
theorem dX5_init_5 : decode cX5_init 5 = .ok (.bipush 7, 2) := by decide +kernel
theorem dX5_init_7 : decode cX5_init 7 = .ok (.newarray .int, 2) := by decide +kernel
theorem dX5_init_9 : decode cX5_init 9 = .ok (.putfield 9, 3) := by decide +kernel
theorem dX5_init_12 : decode cX5_init 12 = .ok (.aload_n 0, 1) := by decide +kernel
theorem dX5_init_13 : decode cX5_init 13 = .ok (.bipush 7, 2) := by decide +kernel
theorem dX5_init_15 : decode cX5_init 15 = .ok (.newarray .int, 2) := by decide +kernel
theorem dX5_init_17 : decode cX5_init 17 = .ok (.putfield 15, 3) := by decide +kernel
theorem dX5_init_20 : decode cX5_init 20 = .ok (.aload_n 0, 1) := by decide +kernel
theorem dX5_init_21 : decode cX5_init 21 = .ok (.aload_n 1, 1) := by decide +kernel
theorem dX5_init_22 : decode cX5_init 22 = .ok (.putfield 18, 3) := by decide +kernel
theorem dX5_init_25 : decode cX5_init 25 = .ok (.aload_n 0, 1) := by decide +kernel
theorem dX5_init_26 : decode cX5_init 26 = .ok (.aload_n 2, 1) := by decide +kernel
theorem dX5_init_27 : decode cX5_init 27 = .ok (.putfield 22, 3) := by decide +kernel
theorem dX5_init_30 : decode cX5_init 30 = .ok (.return_, 1) := by decide +kernel
theorem dX5_run_0 : decode cX5_run 0 = .ok (.aload_n 0, 1) := by decide +kernel
theorem dX5_run_1 : decode cX5_run 1 = .ok (.aload_n 0, 1) := by decide +kernel
theorem dX5_run_2 : decode cX5_run 2 = .ok (.getfield 18, 3) := by decide +kernel
theorem dX5_run_5 : decode cX5_run 5 = .ok (.getfield 26, 3) := by decide +kernel
theorem dX5_run_8 : decode cX5_run 8 = .ok (.iload_n 1, 1) := by decide +kernel
theorem dX5_run_9 : decode cX5_run 9 = .ok (.iaload, 1) := by decide +kernel
theorem dX5_run_10 : decode cX5_run 10 = .ok (.putfield 31, 3) := by decide +kernel
theorem dX5_run_13 : decode cX5_run 13 = .ok (.aload_n 0, 1) := by decide +kernel
theorem dX5_run_14 : decode cX5_run 14 = .ok (.iload_n 2, 1) := by decide +kernel
theorem dX5_run_15 : decode cX5_run 15 = .ok (.putfield 35, 3) := by decide +kernel
theorem dX5_run_18 : decode cX5_run 18 = .ok (.aload_n 0, 1) := by decide +kernel
theorem dX5_run_19 : decode cX5_run 19 = .ok (.iload_n 3, 1) := by decide +kernel
theorem dX5_run_20 : decode cX5_run 20 = .ok (.putfield 38, 3) := by decide +kernel
theorem dX5_run_23 : decode cX5_run 23 = .ok (.aload_n 0, 1) := by decide +kernel
theorem dX5_run_24 : decode cX5_run 24 = .ok (.iconst 0, 1) := by decide +kernel
theorem dX5_run_25 : decode cX5_run 25 = .ok (.putfield 41, 3) := by decide +kernel
theorem dX5_run_28 : decode cX5_run 28 = .ok (.aload_n 0, 1) := by decide +kernel
theorem dX5_run_29 : decode cX5_run 29 = .ok (.iconst 0, 1) := by decide +kernel
theorem dX5_run_30 : decode cX5_run 30 = .ok (.putfield 44, 3) := by decide +kernel
theorem dX5_run_33 : decode cX5_run 33 = .ok (.aload_n 0, 1) := by decide +kernel
theorem dX5_run_34 : decode cX5_run 34 = .ok (.iconst 0, 1) := by decide +kernel
theorem dX5_run_35 : decode cX5_run 35 = .ok (.iconst 1, 1) := by decide +kernel
theorem dX5_run_36 : decode cX5_run 36 = .ok (.iconst 0, 1) := by decide +kernel
theorem dX5_run_37 : decode cX5_run 37 = .ok (.iconst 0, 1) := by decide +kernel
theorem dX5_run_38 : decode cX5_run 38 = .ok (.ldc 47, 2) := by decide +kernel
theorem dX5_run_40 : decode cX5_run 40 = .ok (.invokevirtual 48, 3) := by decide +kernel
theorem dX5_run_43 : decode cX5_run 43 = .ok (.return_, 1) := by decide +kernel
theorem dX5_goOn_0 : decode cX5_goOn 0 = .ok (.iload_n 1, 1) := by decide +kernel
theorem dX5_goOn_1 : decode cX5_goOn 1 = .ok (.aload_n 0, 1) := by decide +kernel
theorem dX5_goOn_2 : decode cX5_goOn 2 = .ok (.getfield 31, 3) := by decide +kernel
theorem dX5_goOn_5 : decode cX5_goOn 5 = .ok (.if_icmp .ne 13, 3) := by decide +kernel
theorem dX5_goOn_8 : decode cX5_goOn 8 = .ok (.aload_n 0, 1) := by decide +kernel
theorem dX5_goOn_9 : decode cX5_goOn 9 = .ok (.iload_n 3, 1) := by decide +kernel
theorem dX5_goOn_10 : decode cX5_goOn 10 = .ok (.iload 4, 2) := by decide +kernel
theorem dX5_goOn_12 : decode cX5_goOn 12 = .ok (.iload 5, 2) := by decide +kernel
theorem dX5_goOn_14 : decode cX5_goOn 14 = .ok (.invokevirtual 52, 3) := by decide +kernel
theorem dX5_goOn_17 : decode cX5_goOn 17 = .ok (.return_, 1) := by decide +kernel
theorem dX5_goOn_18 : decode cX5_goOn 18 = .ok (.iload 4, 2) := by decide +kernel
theorem dX5_goOn_20 : decode cX5_goOn 20 = .ok (.bipush 7, 2) := by decide +kernel
theorem dX5_goOn_22 : decode cX5_goOn 22 = .ok (.if_icmp .lt 4, 3) := by decide +kernel
theorem dX5_goOn_25 : decode cX5_goOn 25 = .ok (.return_, 1) := by decide +kernel
theorem dX5_goOn_26 : decode cX5_goOn 26 = .ok (.iconst 0, 1) := by decide +kernel
theorem dX5_goOn_27 : decode cX5_goOn 27 = .ok (.istore 6, 2) := by decide +kernel
theorem dX5_goOn_29 : decode cX5_goOn 29 = .ok (.iload 6, 2) := by decide +kernel
theorem dX5_goOn_31 : decode cX5_goOn 31 = .ok (.aload_n 0, 1) := by decide +kernel
theorem dX5_goOn_32 : decode cX5_goOn 32 = .ok (.getfield 18, 3) := by decide +kernel
theorem dX5_goOn_35 : decode cX5_goOn 35 = .ok (.getfield 56, 3) := by decide +kernel
theorem dX5_goOn_38 : decode cX5_goOn 38 = .ok (.if_icmp .ge 79, 3) := by decide +kernel
theorem dX5_goOn_41 : decode cX5_goOn 41 = .ok (.aload_n 0, 1) := by decide +kernel
theorem dX5_goOn_42 : decode cX5_goOn 42 = .ok (.getfield 22, 3) := by decide +kernel
theorem dX5_goOn_45 : decode cX5_goOn 45 = .ok (.iload 6, 2) := by decide +kernel
theorem dX5_goOn_47 : decode cX5_goOn 47 = .ok (.iload_n 1, 1) := by decide +kernel
theorem dX5_goOn_48 : decode cX5_goOn 48 = .ok (.invokevirtual 59, 3) := by decide +kernel
theorem dX5_goOn_51 : decode cX5_goOn 51 = .ok (.istore 7, 2) := by decide +kernel
theorem dX5_goOn_53 : decode cX5_goOn 53 = .ok (.iload 7, 2) := by decide +kernel
theorem dX5_goOn_55 : decode cX5_goOn 55 = .ok (.ifCond .lt 56, 3) := by decide +kernel
theorem dX5_goOn_58 : decode cX5_goOn 58 = .ok (.iload_n 2, 1) := by decide +kernel
theorem dX5_goOn_59 : decode cX5_goOn 59 = .ok (.iload 7, 2) := by decide +kernel
theorem dX5_goOn_61 : decode cX5_goOn 61 = .ok (.ishr, 1) := by decide +kernel
theorem dX5_goOn_62 : decode cX5_goOn 62 = .ok (.iconst 1, 1) := by decide +kernel
theorem dX5_goOn_63 : decode cX5_goOn 63 = .ok (.iand, 1) := by decide +kernel
theorem dX5_goOn_64 : decode cX5_goOn 64 = .ok (.ifCond .ne 47, 3) := by decide +kernel
theorem dX5_goOn_67 : decode cX5_goOn 67 = .ok (.aload_n 0, 1) := by decide +kernel
theorem dX5_goOn_68 : decode cX5_goOn 68 = .ok (.getfield 15, 3) := by decide +kernel
theorem dX5_goOn_71 : decode cX5_goOn 71 = .ok (.iload 4, 2) := by decide +kernel
theorem dX5_goOn_73 : decode cX5_goOn 73 = .ok (.iload 6, 2) := by decide +kernel
theorem dX5_goOn_75 : decode cX5_goOn 75 = .ok (.iastore, 1) := by decide +kernel
theorem dX5_goOn_76 : decode cX5_goOn 76 = .ok (.aload_n 0, 1) := by decide +kernel
theorem dX5_goOn_77 : decode cX5_goOn 77 = .ok (.iload 7, 2) := by decide +kernel
theorem dX5_goOn_79 : decode cX5_goOn 79 = .ok (.iload_n 2, 1) := by decide +kernel
theorem dX5_goOn_80 : decode cX5_goOn 80 = .ok (.iconst 1, 1) := by decide +kernel
theorem dX5_goOn_81 : decode cX5_goOn 81 = .ok (.iload 7, 2) := by decide +kernel
theorem dX5_goOn_83 : decode cX5_goOn 83 = .ok (.ishl, 1) := by decide +kernel
theorem dX5_goOn_84 : decode cX5_goOn 84 = .ok (.ior, 1) := by decide +kernel
theorem dX5_goOn_85 : decode cX5_goOn 85 = .ok (.iload_n 3, 1) := by decide +kernel
theorem dX5_goOn_86 : decode cX5_goOn 86 = .ok (.iconst 1, 1) := by decide +kernel
theorem dX5_goOn_87 : decode cX5_goOn 87 = .ok (.iload 6, 2) := by decide +kernel
theorem dX5_goOn_89 : decode cX5_goOn 89 = .ok (.ishl, 1) := by decide +kernel
theorem dX5_goOn_90 : decode cX5_goOn 90 = .ok (.ior, 1) := by decide +kernel
theorem dX5_goOn_91 : decode cX5_goOn 91 = .ok (.iload 4, 2) := by decide +kernel
theorem dX5_goOn_93 : decode cX5_goOn 93 = .ok (.iconst 1, 1) := by decide +kernel
theorem dX5_goOn_94 : decode cX5_goOn 94 = .ok (.iadd, 1) := by decide +kernel
theorem dX5_goOn_95 : decode cX5_goOn 95 = .ok (.iload 5, 2) := by decide +kernel
theorem dX5_goOn_97 : decode cX5_goOn 97 = .ok (.aload_n 0, 1) := by decide +kernel
theorem dX5_goOn_98 : decode cX5_goOn 98 = .ok (.getfield 22, 3) := by decide +kernel
theorem dX5_goOn_101 : decode cX5_goOn 101 = .ok (.getfield 65, 3) := by decide +kernel
theorem dX5_goOn_104 : decode cX5_goOn 104 = .ok (.iload 6, 2) := by decide +kernel
theorem dX5_goOn_106 : decode cX5_goOn 106 = .ok (.iaload, 1) := by decide +kernel
theorem dX5_goOn_107 : decode cX5_goOn 107 = .ok (.iand, 1) := by decide +kernel
theorem dX5_goOn_108 : decode cX5_goOn 108 = .ok (.invokevirtual 48, 3) := by decide +kernel
theorem dX5_goOn_111 : decode cX5_goOn 111 = .ok (.iinc 6 1, 3) := by decide +kernel
theorem dX5_goOn_114 : decode cX5_goOn 114 = .ok (.goto (-85), 3) := by decide +kernel
theorem dX5_goOn_117 : decode cX5_goOn 117 = .ok (.return_, 1) := by decide +kernel
theorem dX5_arrive_0 : decode cX5_arrive 0 = .ok (.aload_n 0, 1) := by decide +kernel
theorem dX5_arrive_1 : decode cX5_arrive 1 = .ok (.getfield 41, 3) := by decide +kernel
theorem dX5_arrive_4 : decode cX5_arrive 4 = .ok (.aload_n 0, 1) := by decide +kernel
theorem dX5_arrive_5 : decode cX5_arrive 5 = .ok (.getfield 35, 3) := by decide +kernel
theorem dX5_arrive_8 : decode cX5_arrive 8 = .ok (.if_icmp .ne 18, 3) := by decide +kernel
theorem dX5_arrive_11 : decode cX5_arrive 11 = .ok (.aload_n 0, 1) := by decide +kernel
theorem dX5_arrive_12 : decode cX5_arrive 12 = .ok (.iload_n 1, 1) := by decide +kernel
theorem dX5_arrive_13 : decode cX5_arrive 13 = .ok (.putfield 68, 3) := by decide +kernel
theorem dX5_arrive_16 : decode cX5_arrive 16 = .ok (.aload_n 0, 1) := by decide +kernel
theorem dX5_arrive_17 : decode cX5_arrive 17 = .ok (.iload_n 2, 1) := by decide +kernel
theorem dX5_arrive_18 : decode cX5_arrive 18 = .ok (.putfield 71, 3) := by decide +kernel
theorem dX5_arrive_21 : decode cX5_arrive 21 = .ok (.aload_n 0, 1) := by decide +kernel
theorem dX5_arrive_22 : decode cX5_arrive 22 = .ok (.iload_n 3, 1) := by decide +kernel
theorem dX5_arrive_23 : decode cX5_arrive 23 = .ok (.putfield 74, 3) := by decide +kernel
theorem dX5_arrive_26 : decode cX5_arrive 26 = .ok (.aload_n 0, 1) := by decide +kernel
theorem dX5_arrive_27 : decode cX5_arrive 27 = .ok (.dup, 1) := by decide +kernel
theorem dX5_arrive_28 : decode cX5_arrive 28 = .ok (.getfield 41, 3) := by decide +kernel
theorem dX5_arrive_31 : decode cX5_arrive 31 = .ok (.iconst 1, 1) := by decide +kernel
theorem dX5_arrive_32 : decode cX5_arrive 32 = .ok (.iadd, 1) := by decide +kernel
theorem dX5_arrive_33 : decode cX5_arrive 33 = .ok (.putfield 41, 3) := by decide +kernel
theorem dX5_arrive_36 : decode cX5_arrive 36 = .ok (.aload_n 0, 1) := by decide +kernel
theorem dX5_arrive_37 : decode cX5_arrive 37 = .ok (.getfield 38, 3) := by decide +kernel
theorem dX5_arrive_40 : decode cX5_arrive 40 = .ok (.ifCond .lt 48, 3) := by decide +kernel
theorem dX5_arrive_43 : decode cX5_arrive 43 = .ok (.iload_n 3, 1) := by decide +kernel
theorem dX5_arrive_44 : decode cX5_arrive 44 = .ok (.aload_n 0, 1) := by decide +kernel
theorem dX5_arrive_45 : decode cX5_arrive 45 = .ok (.getfield 38, 3) := by decide +kernel
theorem dX5_arrive_48 : decode cX5_arrive 48 = .ok (.ishr, 1) := by decide +kernel
theorem dX5_arrive_49 : decode cX5_arrive 49 = .ok (.iconst 1, 1) := by decide +kernel
theorem dX5_arrive_50 : decode cX5_arrive 50 = .ok (.iand, 1) := by decide +kernel
theorem dX5_arrive_51 : decode cX5_arrive 51 = .ok (.ifCond .eq 37, 3) := by decide +kernel
theorem dX5_arrive_54 : decode cX5_arrive 54 = .ok (.aload_n 0, 1) := by decide +kernel
theorem dX5_arrive_55 : decode cX5_arrive 55 = .ok (.getfield 44, 3) := by decide +kernel
theorem dX5_arrive_58 : decode cX5_arrive 58 = .ok (.ifCond .eq 11, 3) := by decide +kernel
theorem dX5_arrive_61 : decode cX5_arrive 61 = .ok (.iload_n 2, 1) := by decide +kernel
theorem dX5_arrive_62 : decode cX5_arrive 62 = .ok (.aload_n 0, 1) := by decide +kernel
theorem dX5_arrive_63 : decode cX5_arrive 63 = .ok (.getfield 44, 3) := by decide +kernel
theorem dX5_arrive_66 : decode cX5_arrive 66 = .ok (.if_icmp .ge 22, 3) := by decide +kernel
theorem dX5_arrive_69 : decode cX5_arrive 69 = .ok (.aload_n 0, 1) := by decide +kernel
theorem dX5_arrive_70 : decode cX5_arrive 70 = .ok (.iload_n 2, 1) := by decide +kernel
theorem dX5_arrive_71 : decode cX5_arrive 71 = .ok (.putfield 44, 3) := by decide +kernel
theorem dX5_arrive_74 : decode cX5_arrive 74 = .ok (.aload_n 0, 1) := by decide +kernel
theorem dX5_arrive_75 : decode cX5_arrive 75 = .ok (.getfield 15, 3) := by decide +kernel
theorem dX5_arrive_78 : decode cX5_arrive 78 = .ok (.iconst 0, 1) := by decide +kernel
theorem dX5_arrive_79 : decode cX5_arrive 79 = .ok (.aload_n 0, 1) := by decide +kernel
theorem dX5_arrive_80 : decode cX5_arrive 80 = .ok (.getfield 9, 3) := by decide +kernel
theorem dX5_arrive_83 : decode cX5_arrive 83 = .ok (.iconst 0, 1) := by decide +kernel
theorem dX5_arrive_84 : decode cX5_arrive 84 = .ok (.iload_n 2, 1) := by decide +kernel
theorem dX5_arrive_85 : decode cX5_arrive 85 = .ok (.invokestatic 76, 3) := by decide +kernel
theorem dX5_arrive_88 : decode cX5_arrive 88 = .ok (.return_, 1) := by decide +kernel
theorem dX6_init_0 : decode cX6_init 0 = .ok (.aload_n 0, 1) := by decide +kernel
theorem dX6_init_1 : decode cX6_init 1 = .ok (.invokespecial 3, 3) := by decide +kernel
theorem dX6_init_4 : decode cX6_init 4 = .ok (.aload_n 0, 1) := by decide +kernel
theorem dX6_init_5 : decode cX6_init 5 = .ok (.bipush 9, 2) := by decide +kernel
theorem dX6_init_7 : decode cX6_init 7 = .ok (.newarray .int, 2) := by decide +kernel
theorem dX6_init_9 : decode cX6_init 9 = .ok (.putfield 9, 3) := by decide +kernel
theorem dX6_init_12 : decode cX6_init 12 = .ok (.aload_n 0, 1) := by decide +kernel
theorem dX6_init_13 : decode cX6_init 13 = .ok (.bipush 9, 2) := by decide +kernel
theorem dX6_init_15 : decode cX6_init 15 = .ok (.newarray .boolean, 2) := by decide +kernel
theorem dX6_init_17 : decode cX6_init 17 = .ok (.putfield 15, 3) := by decide +kernel
theorem dX6_init_20 : decode cX6_init 20 = .ok (.aload_n 0, 1) := by decide +kernel
theorem dX6_init_21 : decode cX6_init 21 = .ok (.bipush 9, 2) := by decide +kernel
theorem dX6_init_23 : decode cX6_init 23 = .ok (.newarray .boolean, 2) := by decide +kernel
theorem dX6_init_25 : decode cX6_init 25 = .ok (.putfield 19, 3) := by decide +kernel
theorem dX6_init_28 : decode cX6_init 28 = .ok (.aload_n 0, 1) := by decide +kernel
theorem dX6_init_29 : decode cX6_init 29 = .ok (.bipush 7, 2) := by decide +kernel
theorem dX6_init_31 : decode cX6_init 31 = .ok (.newarray .int, 2) := by decide +kernel
theorem dX6_init_33 : decode cX6_init 33 = .ok (.putfield 22, 3) := by decide +kernel
theorem dX6_init_36 : decode cX6_init 36 = .ok (.aload_n 0, 1) := by decide +kernel
theorem dX6_init_37 : decode cX6_init 37 = .ok (.aload_n 1, 1) := by decide +kernel
theorem dX6_init_38 : decode cX6_init 38 = .ok (.putfield 25, 3) := by decide +kernel
theorem dX6_init_41 : decode cX6_init 41 = .ok (.aload_n 0, 1) := by decide +kernel
theorem dX6_init_42 : decode cX6_init 42 = .ok (.aload_n 2, 1) := by decide +kernel
theorem dX6_init_43 : decode cX6_init 43 = .ok (.putfield 29, 3) := by decide +kernel
theorem dX6_init_46 : decode cX6_init 46 = .ok (.return_, 1) := by decide +kernel
theorem dX6_layAll_0 : decode cX6_layAll 0 = .ok (.iconst 0, 1) := by decide +kernel
theorem dX6_layAll_1 : decode cX6_layAll 1 = .ok (.istore_n 1, 1) := by decide +kernel
theorem dX6_layAll_2 : decode cX6_layAll 2 = .ok (.iload_n 1, 1) := by decide +kernel
theorem dX6_layAll_3 : decode cX6_layAll 3 = .ok (.aload_n 0, 1) := by decide +kernel
theorem dX6_layAll_4 : decode cX6_layAll 4 = .ok (.getfield 25, 3) := by decide +kernel
theorem dX6_layAll_7 : decode cX6_layAll 7 = .ok (.getfield 33, 3) := by decide +kernel
theorem dX6_layAll_10 : decode cX6_layAll 10 = .ok (.if_icmp .ge 41, 3) := by decide +kernel
theorem dX6_layAll_13 : decode cX6_layAll 13 = .ok (.aload_n 0, 1) := by decide +kernel
theorem dX6_layAll_14 : decode cX6_layAll 14 = .ok (.iload_n 1, 1) := by decide +kernel
theorem dX6_layAll_15 : decode cX6_layAll 15 = .ok (.aload_n 0, 1) := by decide +kernel
theorem dX6_layAll_16 : decode cX6_layAll 16 = .ok (.getfield 29, 3) := by decide +kernel
theorem dX6_layAll_19 : decode cX6_layAll 19 = .ok (.getfield 39, 3) := by decide +kernel
theorem dX6_layAll_22 : decode cX6_layAll 22 = .ok (.iload_n 1, 1) := by decide +kernel
theorem dX6_layAll_23 : decode cX6_layAll 23 = .ok (.iaload, 1) := by decide +kernel
theorem dX6_layAll_24 : decode cX6_layAll 24 = .ok (.aload_n 0, 1) := by decide +kernel
theorem dX6_layAll_25 : decode cX6_layAll 25 = .ok (.getfield 29, 3) := by decide +kernel
theorem dX6_layAll_28 : decode cX6_layAll 28 = .ok (.getfield 44, 3) := by decide +kernel
theorem dX6_layAll_31 : decode cX6_layAll 31 = .ok (.iload_n 1, 1) := by decide +kernel
theorem dX6_layAll_32 : decode cX6_layAll 32 = .ok (.iaload, 1) := by decide +kernel
theorem dX6_layAll_33 : decode cX6_layAll 33 = .ok (.aload_n 0, 1) := by decide +kernel
theorem dX6_layAll_34 : decode cX6_layAll 34 = .ok (.getfield 29, 3) := by decide +kernel
theorem dX6_layAll_37 : decode cX6_layAll 37 = .ok (.getfield 47, 3) := by decide +kernel
theorem dX6_layAll_40 : decode cX6_layAll 40 = .ok (.iload_n 1, 1) := by decide +kernel
theorem dX6_layAll_41 : decode cX6_layAll 41 = .ok (.iaload, 1) := by decide +kernel
theorem dX6_layAll_42 : decode cX6_layAll 42 = .ok (.invokevirtual 50, 3) := by decide +kernel
theorem dX6_layAll_45 : decode cX6_layAll 45 = .ok (.iinc 1 1, 3) := by decide +kernel
theorem dX6_layAll_48 : decode cX6_layAll 48 = .ok (.goto (-46), 3) := by decide +kernel
theorem dX6_layAll_51 : decode cX6_layAll 51 = .ok (.return_, 1) := by decide +kernel
theorem dX6_layOne_0 : decode cX6_layOne 0 = .ok (.iload 4, 2) := by decide +kernel
theorem dX6_layOne_2 : decode cX6_layOne 2 = .ok (.ifCond .eq 50, 3) := by decide +kernel
theorem dX6_layOne_5 : decode cX6_layOne 5 = .ok (.iload 4, 2) := by decide +kernel
theorem dX6_layOne_7 : decode cX6_layOne 7 = .ok (.iconst 2, 1) := by decide +kernel
theorem dX6_layOne_8 : decode cX6_layOne 8 = .ok (.if_icmp .ne 7, 3) := by decide +kernel
theorem dX6_layOne_11 : decode cX6_layOne 11 = .ok (.iconst 1, 1) := by decide +kernel
theorem dX6_layOne_12 : decode cX6_layOne 12 = .ok (.goto 4, 3) := by decide +kernel
theorem dX6_layOne_15 : decode cX6_layOne 15 = .ok (.iconst 0, 1) := by decide +kernel
theorem dX6_layOne_16 : decode cX6_layOne 16 = .ok (.istore 5, 2) := by decide +kernel
theorem dX6_layOne_18 : decode cX6_layOne 18 = .ok (.aload_n 0, 1) := by decide +kernel
theorem dX6_layOne_19 : decode cX6_layOne 19 = .ok (.getfield 9, 3) := by decide +kernel
theorem dX6_layOne_22 : decode cX6_layOne 22 = .ok (.iload_n 1, 1) := by decide +kernel
theorem dX6_layOne_23 : decode cX6_layOne 23 = .ok (.iload 5, 2) := by decide +kernel
theorem dX6_layOne_25 : decode cX6_layOne 25 = .ok (.ifCond .eq 8, 3) := by decide +kernel
theorem dX6_layOne_28 : decode cX6_layOne 28 = .ok (.ldc 54, 2) := by decide +kernel
theorem dX6_layOne_30 : decode cX6_layOne 30 = .ok (.goto 4, 3) := by decide +kernel
theorem dX6_layOne_33 : decode cX6_layOne 33 = .ok (.iconst 0, 1) := by decide +kernel
theorem dX6_layOne_34 : decode cX6_layOne 34 = .ok (.iastore, 1) := by decide +kernel
theorem dX6_layOne_35 : decode cX6_layOne 35 = .ok (.aload_n 0, 1) := by decide +kernel
theorem dX6_layOne_36 : decode cX6_layOne 36 = .ok (.getfield 15, 3) := by decide +kernel
theorem dX6_layOne_39 : decode cX6_layOne 39 = .ok (.iload_n 1, 1) := by decide +kernel
theorem dX6_layOne_40 : decode cX6_layOne 40 = .ok (.iload 5, 2) := by decide +kernel
theorem dX6_layOne_42 : decode cX6_layOne 42 = .ok (.bastore, 1) := by decide +kernel
theorem dX6_layOne_43 : decode cX6_layOne 43 = .ok (.aload_n 0, 1) := by decide +kernel
theorem dX6_layOne_44 : decode cX6_layOne 44 = .ok (.getfield 19, 3) := by decide +kernel
theorem dX6_layOne_47 : decode cX6_layOne 47 = .ok (.iload_n 1, 1) := by decide +kernel
theorem dX6_layOne_48 : decode cX6_layOne 48 = .ok (.iload 5, 2) := by decide +kernel
theorem dX6_layOne_50 : decode cX6_layOne 50 = .ok (.bastore, 1) := by decide +kernel
theorem dX6_layOne_51 : decode cX6_layOne 51 = .ok (.return_, 1) := by decide +kernel
theorem dX6_layOne_52 : decode cX6_layOne 52 = .ok (.aload_n 0, 1) := by decide +kernel
theorem dX6_layOne_53 : decode cX6_layOne 53 = .ok (.getfield 9, 3) := by decide +kernel
theorem dX6_layOne_56 : decode cX6_layOne 56 = .ok (.iload_n 1, 1) := by decide +kernel
theorem dX6_layOne_57 : decode cX6_layOne 57 = .ok (.aload_n 0, 1) := by decide +kernel
theorem dX6_layOne_58 : decode cX6_layOne 58 = .ok (.getfield 25, 3) := by decide +kernel
theorem dX6_layOne_61 : decode cX6_layOne 61 = .ok (.getfield 55, 3) := by decide +kernel
theorem dX6_layOne_64 : decode cX6_layOne 64 = .ok (.iload_n 1, 1) := by decide +kernel
theorem dX6_layOne_65 : decode cX6_layOne 65 = .ok (.iaload, 1) := by decide +kernel
theorem dX6_layOne_66 : decode cX6_layOne 66 = .ok (.aload_n 0, 1) := by decide +kernel
theorem dX6_layOne_67 : decode cX6_layOne 67 = .ok (.getfield 25, 3) := by decide +kernel
theorem dX6_layOne_70 : decode cX6_layOne 70 = .ok (.getfield 58, 3) := by decide +kernel
theorem dX6_layOne_73 : decode cX6_layOne 73 = .ok (.iload_n 1, 1) := by decide +kernel
theorem dX6_layOne_74 : decode cX6_layOne 74 = .ok (.iaload, 1) := by decide +kernel
theorem dX6_layOne_75 : decode cX6_layOne 75 = .ok (.invokestatic 61, 3) := by decide +kernel
theorem dX6_layOne_78 : decode cX6_layOne 78 = .ok (.iload_n 2, 1) := by decide +kernel
theorem dX6_layOne_79 : decode cX6_layOne 79 = .ok (.iload_n 3, 1) := by decide +kernel
theorem dX6_layOne_80 : decode cX6_layOne 80 = .ok (.invokestatic 61, 3) := by decide +kernel
theorem dX6_layOne_83 : decode cX6_layOne 83 = .ok (.iand, 1) := by decide +kernel
theorem dX6_layOne_84 : decode cX6_layOne 84 = .ok (.iastore, 1) := by decide +kernel
theorem dX6_layOne_85 : decode cX6_layOne 85 = .ok (.aload_n 0, 1) := by decide +kernel
theorem dX6_layOne_86 : decode cX6_layOne 86 = .ok (.getfield 15, 3) := by decide +kernel
theorem dX6_layOne_89 : decode cX6_layOne 89 = .ok (.iload_n 1, 1) := by decide +kernel
theorem dX6_layOne_90 : decode cX6_layOne 90 = .ok (.iload_n 2, 1) := by decide +kernel
theorem dX6_layOne_91 : decode cX6_layOne 91 = .ok (.iconst 3, 1) := by decide +kernel
theorem dX6_layOne_92 : decode cX6_layOne 92 = .ok (.if_icmp .eq 7, 3) := by decide +kernel
theorem dX6_layOne_95 : decode cX6_layOne 95 = .ok (.iconst 1, 1) := by decide +kernel
theorem dX6_layOne_96 : decode cX6_layOne 96 = .ok (.goto 4, 3) := by decide +kernel
theorem dX6_layOne_99 : decode cX6_layOne 99 = .ok (.iconst 0, 1) := by decide +kernel
theorem dX6_layOne_100 : decode cX6_layOne 100 = .ok (.bastore, 1) := by decide +kernel
theorem dX6_layOne_101 : decode cX6_layOne 101 = .ok (.aload_n 0, 1) := by decide +kernel
theorem dX6_layOne_102 : decode cX6_layOne 102 = .ok (.getfield 19, 3) := by decide +kernel
theorem dX6_layOne_105 : decode cX6_layOne 105 = .ok (.iload_n 1, 1) := by decide +kernel
theorem dX6_layOne_106 : decode cX6_layOne 106 = .ok (.iload_n 2, 1) := by decide +kernel
theorem dX6_layOne_107 : decode cX6_layOne 107 = .ok (.iconst 2, 1) := by decide +kernel
theorem dX6_layOne_108 : decode cX6_layOne 108 = .ok (.if_icmp .eq 20, 3) := by decide +kernel
theorem dX6_layOne_111 : decode cX6_layOne 111 = .ok (.aload_n 0, 1) := by decide +kernel
theorem dX6_layOne_112 : decode cX6_layOne 112 = .ok (.getfield 25, 3) := by decide +kernel
theorem dX6_layOne_115 : decode cX6_layOne 115 = .ok (.getfield 55, 3) := by decide +kernel
theorem dX6_layOne_118 : decode cX6_layOne 118 = .ok (.iload_n 1, 1) := by decide +kernel
theorem dX6_layOne_119 : decode cX6_layOne 119 = .ok (.iaload, 1) := by decide +kernel
theorem dX6_layOne_120 : decode cX6_layOne 120 = .ok (.iconst 3, 1) := by decide +kernel
theorem dX6_layOne_121 : decode cX6_layOne 121 = .ok (.if_icmp .eq 7, 3) := by decide +kernel
theorem dX6_layOne_124 : decode cX6_layOne 124 = .ok (.iconst 1, 1) := by decide +kernel
theorem dX6_layOne_125 : decode cX6_layOne 125 = .ok (.goto 4, 3) := by decide +kernel
theorem dX6_layOne_128 : decode cX6_layOne 128 = .ok (.iconst 0, 1) := by decide +kernel
theorem dX6_layOne_129 : decode cX6_layOne 129 = .ok (.bastore, 1) := by decide +kernel
theorem dX6_layOne_130 : decode cX6_layOne 130 = .ok (.return_, 1) := by decide +kernel
theorem dX6_shutBy_0 : decode cX6_shutBy 0 = .ok (.iload_n 0, 1) := by decide +kernel
theorem dX6_shutBy_1 : decode cX6_shutBy 1 = .ok (.iconst 1, 1) := by decide +kernel
theorem dX6_shutBy_2 : decode cX6_shutBy 2 = .ok (.if_icmp .gt 12, 3) := by decide +kernel
theorem dX6_shutBy_5 : decode cX6_shutBy 5 = .ok (.iload_n 1, 1) := by decide +kernel
theorem dX6_shutBy_6 : decode cX6_shutBy 6 = .ok (.ifCond .lt 8, 3) := by decide +kernel
theorem dX6_shutBy_9 : decode cX6_shutBy 9 = .ok (.iload_n 1, 1) := by decide +kernel
theorem dX6_shutBy_10 : decode cX6_shutBy 10 = .ok (.iconst 4, 1) := by decide +kernel
theorem dX6_shutBy_11 : decode cX6_shutBy 11 = .ok (.if_icmp .lt 6, 3) := by decide +kernel
theorem dX6_shutBy_14 : decode cX6_shutBy 14 = .ok (.ldc 54, 2) := by decide +kernel
theorem dX6_shutBy_16 : decode cX6_shutBy 16 = .ok (.ireturn, 1) := by decide +kernel
theorem dX6_shutBy_17 : decode cX6_shutBy 17 = .ok (.getstatic 65, 3) := by decide +kernel
theorem dX6_shutBy_20 : decode cX6_shutBy 20 = .ok (.iload_n 1, 1) := by decide +kernel
theorem dX6_shutBy_21 : decode cX6_shutBy 21 = .ok (.iaload, 1) := by decide +kernel
theorem dX6_shutBy_22 : decode cX6_shutBy 22 = .ok (.istore_n 2, 1) := by decide +kernel
theorem dX6_shutBy_23 : decode cX6_shutBy 23 = .ok (.iload_n 0, 1) := by decide +kernel
theorem dX6_shutBy_24 : decode cX6_shutBy 24 = .ok (.ifCond .ne 7, 3) := by decide +kernel
theorem dX6_shutBy_27 : decode cX6_shutBy 27 = .ok (.iload_n 2, 1) := by decide +kernel
theorem dX6_shutBy_28 : decode cX6_shutBy 28 = .ok (.goto 9, 3) := by decide +kernel
theorem dX6_shutBy_31 : decode cX6_shutBy 31 = .ok (.ldc 54, 2) := by decide +kernel
theorem dX6_shutBy_33 : decode cX6_shutBy 33 = .ok (.iload_n 2, 1) := by decide +kernel
theorem dX6_shutBy_34 : decode cX6_shutBy 34 = .ok (.iconst (-1), 1) := by decide +kernel
theorem dX6_shutBy_35 : decode cX6_shutBy 35 = .ok (.ixor, 1) := by decide +kernel
theorem dX6_shutBy_36 : decode cX6_shutBy 36 = .ok (.iand, 1) := by decide +kernel
theorem dX6_shutBy_37 : decode cX6_shutBy 37 = .ok (.ireturn, 1) := by decide +kernel
theorem dX6_spread_0 : decode cX6_spread 0 = .ok (.iconst 0, 1) := by decide +kernel
theorem dX6_spread_1 : decode cX6_spread 1 = .ok (.istore_n 2, 1) := by decide +kernel
theorem dX6_spread_2 : decode cX6_spread 2 = .ok (.iload_n 2, 1) := by decide +kernel
theorem dX6_spread_3 : decode cX6_spread 3 = .ok (.bipush 7, 2) := by decide +kernel
theorem dX6_spread_5 : decode cX6_spread 5 = .ok (.if_icmp .ge 16, 3) := by decide +kernel
theorem dX6_spread_8 : decode cX6_spread 8 = .ok (.aload_n 0, 1) := by decide +kernel
theorem dX6_spread_9 : decode cX6_spread 9 = .ok (.getfield 22, 3) := by decide +kernel
theorem dX6_spread_12 : decode cX6_spread 12 = .ok (.iload_n 2, 1) := by decide +kernel
theorem dX6_spread_13 : decode cX6_spread 13 = .ok (.iconst 0, 1) := by decide +kernel
theorem dX6_spread_14 : decode cX6_spread 14 = .ok (.iastore, 1) := by decide +kernel
theorem dX6_spread_15 : decode cX6_spread 15 = .ok (.iinc 2 1, 3) := by decide +kernel
theorem dX6_spread_18 : decode cX6_spread 18 = .ok (.goto (-16), 3) := by decide +kernel
theorem dX6_spread_21 : decode cX6_spread 21 = .ok (.aload_n 0, 1) := by decide +kernel
theorem dX6_spread_22 : decode cX6_spread 22 = .ok (.getfield 22, 3) := by decide +kernel
theorem dX6_spread_25 : decode cX6_spread 25 = .ok (.iconst 0, 1) := by decide +kernel
theorem dX6_spread_26 : decode cX6_spread 26 = .ok (.ldc 54, 2) := by decide +kernel
theorem dX6_spread_28 : decode cX6_spread 28 = .ok (.iastore, 1) := by decide +kernel
theorem dX6_spread_29 : decode cX6_spread 29 = .ok (.aload_n 0, 1) := by decide +kernel
theorem dX6_spread_30 : decode cX6_spread 30 = .ok (.iconst 1, 1) := by decide +kernel
theorem dX6_spread_31 : decode cX6_spread 31 = .ok (.putfield 68, 3) := by decide +kernel
theorem dX6_spread_34 : decode cX6_spread 34 = .ok (.iconst 1, 1) := by decide +kernel
theorem dX6_spread_35 : decode cX6_spread 35 = .ok (.istore_n 2, 1) := by decide +kernel
theorem dX6_spread_36 : decode cX6_spread 36 = .ok (.iload_n 2, 1) := by decide +kernel
theorem dX6_spread_37 : decode cX6_spread 37 = .ok (.aload_n 0, 1) := by decide +kernel
theorem dX6_spread_38 : decode cX6_spread 38 = .ok (.getfield 25, 3) := by decide +kernel
theorem dX6_spread_41 : decode cX6_spread 41 = .ok (.getfield 72, 3) := by decide +kernel
theorem dX6_spread_44 : decode cX6_spread 44 = .ok (.if_icmp .ge 53, 3) := by decide +kernel
theorem dX6_spread_47 : decode cX6_spread 47 = .ok (.aload_n 0, 1) := by decide +kernel
theorem dX6_spread_48 : decode cX6_spread 48 = .ok (.getfield 68, 3) := by decide +kernel
theorem dX6_spread_51 : decode cX6_spread 51 = .ok (.ifCond .eq 46, 3) := by decide +kernel
theorem dX6_spread_54 : decode cX6_spread 54 = .ok (.aload_n 0, 1) := by decide +kernel
theorem dX6_spread_55 : decode cX6_spread 55 = .ok (.iconst 0, 1) := by decide +kernel
theorem dX6_spread_56 : decode cX6_spread 56 = .ok (.putfield 68, 3) := by decide +kernel
theorem dX6_spread_59 : decode cX6_spread 59 = .ok (.iconst 0, 1) := by decide +kernel
theorem dX6_spread_60 : decode cX6_spread 60 = .ok (.istore_n 3, 1) := by decide +kernel
theorem dX6_spread_61 : decode cX6_spread 61 = .ok (.iload_n 3, 1) := by decide +kernel
theorem dX6_spread_62 : decode cX6_spread 62 = .ok (.aload_n 0, 1) := by decide +kernel
theorem dX6_spread_63 : decode cX6_spread 63 = .ok (.getfield 25, 3) := by decide +kernel
theorem dX6_spread_66 : decode cX6_spread 66 = .ok (.getfield 33, 3) := by decide +kernel
theorem dX6_spread_69 : decode cX6_spread 69 = .ok (.if_icmp .ge 22, 3) := by decide +kernel
theorem dX6_spread_72 : decode cX6_spread 72 = .ok (.iload_n 1, 1) := by decide +kernel
theorem dX6_spread_73 : decode cX6_spread 73 = .ok (.iload_n 3, 1) := by decide +kernel
theorem dX6_spread_74 : decode cX6_spread 74 = .ok (.ishr, 1) := by decide +kernel
theorem dX6_spread_75 : decode cX6_spread 75 = .ok (.iconst 1, 1) := by decide +kernel
theorem dX6_spread_76 : decode cX6_spread 76 = .ok (.iand, 1) := by decide +kernel
theorem dX6_spread_77 : decode cX6_spread 77 = .ok (.ifCond .ne 8, 3) := by decide +kernel
theorem dX6_spread_80 : decode cX6_spread 80 = .ok (.aload_n 0, 1) := by decide +kernel
theorem dX6_spread_81 : decode cX6_spread 81 = .ok (.iload_n 3, 1) := by decide +kernel
theorem dX6_spread_82 : decode cX6_spread 82 = .ok (.invokevirtual 75, 3) := by decide +kernel
theorem dX6_spread_85 : decode cX6_spread 85 = .ok (.iinc 3 1, 3) := by decide +kernel
theorem dX6_spread_88 : decode cX6_spread 88 = .ok (.goto (-27), 3) := by decide +kernel
theorem dX6_spread_91 : decode cX6_spread 91 = .ok (.iinc 2 1, 3) := by decide +kernel
theorem dX6_spread_94 : decode cX6_spread 94 = .ok (.goto (-58), 3) := by decide +kernel
theorem dX6_spread_97 : decode cX6_spread 97 = .ok (.return_, 1) := by decide +kernel
theorem dX6_spreadOver_0 : decode cX6_spreadOver 0 = .ok (.aload_n 0, 1) := by decide +kernel
theorem dX6_spreadOver_1 : decode cX6_spreadOver 1 = .ok (.getfield 25, 3) := by decide +kernel
theorem dX6_spreadOver_4 : decode cX6_spreadOver 4 = .ok (.getfield 79, 3) := by decide +kernel
theorem dX6_spreadOver_7 : decode cX6_spreadOver 7 = .ok (.iload_n 1, 1) := by decide +kernel
theorem dX6_spreadOver_8 : decode cX6_spreadOver 8 = .ok (.iaload, 1) := by decide +kernel
theorem dX6_spreadOver_9 : decode cX6_spreadOver 9 = .ok (.istore_n 2, 1) := by decide +kernel
theorem dX6_spreadOver_10 : decode cX6_spreadOver 10 = .ok (.aload_n 0, 1) := by decide +kernel
theorem dX6_spreadOver_11 : decode cX6_spreadOver 11 = .ok (.getfield 25, 3) := by decide +kernel
theorem dX6_spreadOver_14 : decode cX6_spreadOver 14 = .ok (.getfield 82, 3) := by decide +kernel
theorem dX6_spreadOver_17 : decode cX6_spreadOver 17 = .ok (.iload_n 1, 1) := by decide +kernel
theorem dX6_spreadOver_18 : decode cX6_spreadOver 18 = .ok (.iaload, 1) := by decide +kernel
theorem dX6_spreadOver_19 : decode cX6_spreadOver 19 = .ok (.istore_n 3, 1) := by decide +kernel
theorem dX6_spreadOver_20 : decode cX6_spreadOver 20 = .ok (.aload_n 0, 1) := by decide +kernel
theorem dX6_spreadOver_21 : decode cX6_spreadOver 21 = .ok (.getfield 15, 3) := by decide +kernel
theorem dX6_spreadOver_24 : decode cX6_spreadOver 24 = .ok (.iload_n 1, 1) := by decide +kernel
theorem dX6_spreadOver_25 : decode cX6_spreadOver 25 = .ok (.baload, 1) := by decide +kernel
theorem dX6_spreadOver_26 : decode cX6_spreadOver 26 = .ok (.ifCond .eq 15, 3) := by decide +kernel
theorem dX6_spreadOver_29 : decode cX6_spreadOver 29 = .ok (.aload_n 0, 1) := by decide +kernel
theorem dX6_spreadOver_30 : decode cX6_spreadOver 30 = .ok (.iload_n 2, 1) := by decide +kernel
theorem dX6_spreadOver_31 : decode cX6_spreadOver 31 = .ok (.iload_n 3, 1) := by decide +kernel
theorem dX6_spreadOver_32 : decode cX6_spreadOver 32 = .ok (.aload_n 0, 1) := by decide +kernel
theorem dX6_spreadOver_33 : decode cX6_spreadOver 33 = .ok (.getfield 9, 3) := by decide +kernel
theorem dX6_spreadOver_36 : decode cX6_spreadOver 36 = .ok (.iload_n 1, 1) := by decide +kernel
theorem dX6_spreadOver_37 : decode cX6_spreadOver 37 = .ok (.iaload, 1) := by decide +kernel
theorem dX6_spreadOver_38 : decode cX6_spreadOver 38 = .ok (.invokevirtual 85, 3) := by decide +kernel
theorem dX6_spreadOver_41 : decode cX6_spreadOver 41 = .ok (.aload_n 0, 1) := by decide +kernel
theorem dX6_spreadOver_42 : decode cX6_spreadOver 42 = .ok (.getfield 19, 3) := by decide +kernel
theorem dX6_spreadOver_45 : decode cX6_spreadOver 45 = .ok (.iload_n 1, 1) := by decide +kernel
theorem dX6_spreadOver_46 : decode cX6_spreadOver 46 = .ok (.baload, 1) := by decide +kernel
theorem dX6_spreadOver_47 : decode cX6_spreadOver 47 = .ok (.ifCond .eq 15, 3) := by decide +kernel
theorem dX6_spreadOver_50 : decode cX6_spreadOver 50 = .ok (.aload_n 0, 1) := by decide +kernel
theorem dX6_spreadOver_51 : decode cX6_spreadOver 51 = .ok (.iload_n 3, 1) := by decide +kernel
theorem dX6_spreadOver_52 : decode cX6_spreadOver 52 = .ok (.iload_n 2, 1) := by decide +kernel
theorem dX6_spreadOver_53 : decode cX6_spreadOver 53 = .ok (.aload_n 0, 1) := by decide +kernel
theorem dX6_spreadOver_54 : decode cX6_spreadOver 54 = .ok (.getfield 9, 3) := by decide +kernel
theorem dX6_spreadOver_57 : decode cX6_spreadOver 57 = .ok (.iload_n 1, 1) := by decide +kernel
theorem dX6_spreadOver_58 : decode cX6_spreadOver 58 = .ok (.iaload, 1) := by decide +kernel
theorem dX6_spreadOver_59 : decode cX6_spreadOver 59 = .ok (.invokevirtual 85, 3) := by decide +kernel
theorem dX6_spreadOver_62 : decode cX6_spreadOver 62 = .ok (.return_, 1) := by decide +kernel
theorem dX6_flow_0 : decode cX6_flow 0 = .ok (.aload_n 0, 1) := by decide +kernel
theorem dX6_flow_1 : decode cX6_flow 1 = .ok (.getfield 22, 3) := by decide +kernel
theorem dX6_flow_4 : decode cX6_flow 4 = .ok (.iload_n 1, 1) := by decide +kernel
theorem dX6_flow_5 : decode cX6_flow 5 = .ok (.iaload, 1) := by decide +kernel
theorem dX6_flow_6 : decode cX6_flow 6 = .ok (.iload_n 3, 1) := by decide +kernel
theorem dX6_flow_7 : decode cX6_flow 7 = .ok (.iand, 1) := by decide +kernel
theorem dX6_flow_8 : decode cX6_flow 8 = .ok (.aload_n 0, 1) := by decide +kernel
theorem dX6_flow_9 : decode cX6_flow 9 = .ok (.getfield 22, 3) := by decide +kernel
theorem dX6_flow_12 : decode cX6_flow 12 = .ok (.iload_n 2, 1) := by decide +kernel
theorem dX6_flow_13 : decode cX6_flow 13 = .ok (.iaload, 1) := by decide +kernel
theorem dX6_flow_14 : decode cX6_flow 14 = .ok (.iconst (-1), 1) := by decide +kernel
theorem dX6_flow_15 : decode cX6_flow 15 = .ok (.ixor, 1) := by decide +kernel
theorem dX6_flow_16 : decode cX6_flow 16 = .ok (.iand, 1) := by decide +kernel
theorem dX6_flow_17 : decode cX6_flow 17 = .ok (.istore 4, 2) := by decide +kernel
theorem dX6_flow_19 : decode cX6_flow 19 = .ok (.iload 4, 2) := by decide +kernel
theorem dX6_flow_21 : decode cX6_flow 21 = .ok (.ifCond .eq 19, 3) := by decide +kernel
theorem dX6_flow_24 : decode cX6_flow 24 = .ok (.aload_n 0, 1) := by decide +kernel
theorem dX6_flow_25 : decode cX6_flow 25 = .ok (.getfield 22, 3) := by decide +kernel
theorem dX6_flow_28 : decode cX6_flow 28 = .ok (.iload_n 2, 1) := by decide +kernel
theorem dX6_flow_29 : decode cX6_flow 29 = .ok (.dup2, 1) := by decide +kernel
theorem dX6_flow_30 : decode cX6_flow 30 = .ok (.iaload, 1) := by decide +kernel
theorem dX6_flow_31 : decode cX6_flow 31 = .ok (.iload 4, 2) := by decide +kernel
theorem dX6_flow_33 : decode cX6_flow 33 = .ok (.ior, 1) := by decide +kernel
theorem dX6_flow_34 : decode cX6_flow 34 = .ok (.iastore, 1) := by decide +kernel
theorem dX6_flow_35 : decode cX6_flow 35 = .ok (.aload_n 0, 1) := by decide +kernel
theorem dX6_flow_36 : decode cX6_flow 36 = .ok (.iconst 1, 1) := by decide +kernel
theorem dX6_flow_37 : decode cX6_flow 37 = .ok (.putfield 68, 3) := by decide +kernel
theorem dX6_flow_40 : decode cX6_flow 40 = .ok (.return_, 1) := by decide +kernel
theorem dX6_fed_0 : decode cX6_fed 0 = .ok (.aload_n 0, 1) := by decide +kernel
theorem dX6_fed_1 : decode cX6_fed 1 = .ok (.getfield 22, 3) := by decide +kernel
theorem dX6_fed_4 : decode cX6_fed 4 = .ok (.aload_n 0, 1) := by decide +kernel
theorem dX6_fed_5 : decode cX6_fed 5 = .ok (.getfield 25, 3) := by decide +kernel
theorem dX6_fed_8 : decode cX6_fed 8 = .ok (.getfield 89, 3) := by decide +kernel
theorem dX6_fed_11 : decode cX6_fed 11 = .ok (.iload_n 1, 1) := by decide +kernel
theorem dX6_fed_12 : decode cX6_fed 12 = .ok (.iaload, 1) := by decide +kernel
theorem dX6_fed_13 : decode cX6_fed 13 = .ok (.iaload, 1) := by decide +kernel
theorem dX6_fed_14 : decode cX6_fed 14 = .ok (.ireturn, 1) := by decide +kernel
theorem dX6_feedsWithout_0 : decode cX6_feedsWithout 0 = .ok (.aload_n 0, 1) := by decide +kernel
theorem dX6_feedsWithout_1 : decode cX6_feedsWithout 1 = .ok (.iload_n 1, 1) := by decide +kernel
theorem dX6_feedsWithout_2 : decode cX6_feedsWithout 2 = .ok (.invokevirtual 92, 3) := by decide +kernel
theorem dX6_feedsWithout_5 : decode cX6_feedsWithout 5 = .ok (.aload_n 0, 1) := by decide +kernel
theorem dX6_feedsWithout_6 : decode cX6_feedsWithout 6 = .ok (.iload_n 2, 1) := by decide +kernel
theorem dX6_feedsWithout_7 : decode cX6_feedsWithout 7 = .ok (.invokevirtual 95, 3) := by decide +kernel
theorem dX6_feedsWithout_10 : decode cX6_feedsWithout 10 = .ok (.iload_n 3, 1) := by decide +kernel
theorem dX6_feedsWithout_11 : decode cX6_feedsWithout 11 = .ok (.ishr, 1) := by decide +kernel
theorem dX6_feedsWithout_12 : decode cX6_feedsWithout 12 = .ok (.iconst 1, 1) := by decide +kernel
theorem dX6_feedsWithout_13 : decode cX6_feedsWithout 13 = .ok (.iand, 1) := by decide +kernel
theorem dX6_feedsWithout_14 : decode cX6_feedsWithout 14 = .ok (.ifCond .eq 7, 3) := by decide +kernel
theorem dX6_feedsWithout_17 : decode cX6_feedsWithout 17 = .ok (.iconst 1, 1) := by decide +kernel
theorem dX6_feedsWithout_18 : decode cX6_feedsWithout 18 = .ok (.goto 4, 3) := by decide +kernel
theorem dX6_feedsWithout_21 : decode cX6_feedsWithout 21 = .ok (.iconst 0, 1) := by decide +kernel
theorem dX6_feedsWithout_22 : decode cX6_feedsWithout 22 = .ok (.ireturn, 1) := by decide +kernel
theorem dX6_nodeBehind_0 : decode cX6_nodeBehind 0 = .ok (.aload_n 0, 1) := by decide +kernel
theorem dX6_nodeBehind_1 : decode cX6_nodeBehind 1 = .ok (.getfield 15, 3) := by decide +kernel
theorem dX6_nodeBehind_4 : decode cX6_nodeBehind 4 = .ok (.iload_n 1, 1) := by decide +kernel
theorem dX6_nodeBehind_5 : decode cX6_nodeBehind 5 = .ok (.baload, 1) := by decide +kernel
theorem dX6_nodeBehind_6 : decode cX6_nodeBehind 6 = .ok (.ifCond .eq 26, 3) := by decide +kernel
theorem dX6_nodeBehind_9 : decode cX6_nodeBehind 9 = .ok (.aload_n 0, 1) := by decide +kernel
theorem dX6_nodeBehind_10 : decode cX6_nodeBehind 10 = .ok (.getfield 25, 3) := by decide +kernel
theorem dX6_nodeBehind_13 : decode cX6_nodeBehind 13 = .ok (.getfield 79, 3) := by decide +kernel
theorem dX6_nodeBehind_16 : decode cX6_nodeBehind 16 = .ok (.iload_n 1, 1) := by decide +kernel
theorem dX6_nodeBehind_17 : decode cX6_nodeBehind 17 = .ok (.iaload, 1) := by decide +kernel
theorem dX6_nodeBehind_18 : decode cX6_nodeBehind 18 = .ok (.iload_n 2, 1) := by decide +kernel
theorem dX6_nodeBehind_19 : decode cX6_nodeBehind 19 = .ok (.if_icmp .ne 13, 3) := by decide +kernel
theorem dX6_nodeBehind_22 : decode cX6_nodeBehind 22 = .ok (.aload_n 0, 1) := by decide +kernel
theorem dX6_nodeBehind_23 : decode cX6_nodeBehind 23 = .ok (.getfield 25, 3) := by decide +kernel
theorem dX6_nodeBehind_26 : decode cX6_nodeBehind 26 = .ok (.getfield 82, 3) := by decide +kernel
theorem dX6_nodeBehind_29 : decode cX6_nodeBehind 29 = .ok (.iload_n 1, 1) := by decide +kernel
theorem dX6_nodeBehind_30 : decode cX6_nodeBehind 30 = .ok (.iaload, 1) := by decide +kernel
theorem dX6_nodeBehind_31 : decode cX6_nodeBehind 31 = .ok (.ireturn, 1) := by decide +kernel
theorem dX6_nodeBehind_32 : decode cX6_nodeBehind 32 = .ok (.aload_n 0, 1) := by decide +kernel
theorem dX6_nodeBehind_33 : decode cX6_nodeBehind 33 = .ok (.getfield 19, 3) := by decide +kernel
theorem dX6_nodeBehind_36 : decode cX6_nodeBehind 36 = .ok (.iload_n 1, 1) := by decide +kernel
theorem dX6_nodeBehind_37 : decode cX6_nodeBehind 37 = .ok (.baload, 1) := by decide +kernel
theorem dX6_nodeBehind_38 : decode cX6_nodeBehind 38 = .ok (.ifCond .eq 28, 3) := by decide +kernel
theorem dX6_nodeBehind_41 : decode cX6_nodeBehind 41 = .ok (.aload_n 0, 1) := by decide +kernel
theorem dX6_nodeBehind_42 : decode cX6_nodeBehind 42 = .ok (.getfield 25, 3) := by decide +kernel
theorem dX6_nodeBehind_45 : decode cX6_nodeBehind 45 = .ok (.getfield 82, 3) := by decide +kernel
theorem dX6_nodeBehind_48 : decode cX6_nodeBehind 48 = .ok (.iload_n 1, 1) := by decide +kernel
theorem dX6_nodeBehind_49 : decode cX6_nodeBehind 49 = .ok (.iaload, 1) := by decide +kernel
theorem dX6_nodeBehind_50 : decode cX6_nodeBehind 50 = .ok (.iload_n 2, 1) := by decide +kernel
theorem dX6_nodeBehind_51 : decode cX6_nodeBehind 51 = .ok (.if_icmp .ne 15, 3) := by decide +kernel
theorem dX6_nodeBehind_54 : decode cX6_nodeBehind 54 = .ok (.aload_n 0, 1) := by decide +kernel
theorem dX6_nodeBehind_55 : decode cX6_nodeBehind 55 = .ok (.getfield 25, 3) := by decide +kernel
theorem dX6_nodeBehind_58 : decode cX6_nodeBehind 58 = .ok (.getfield 79, 3) := by decide +kernel
theorem dX6_nodeBehind_61 : decode cX6_nodeBehind 61 = .ok (.iload_n 1, 1) := by decide +kernel
theorem dX6_nodeBehind_62 : decode cX6_nodeBehind 62 = .ok (.iaload, 1) := by decide +kernel
theorem dX6_nodeBehind_63 : decode cX6_nodeBehind 63 = .ok (.goto 5, 3) := by decide +kernel
theorem dX6_nodeBehind_66 : decode cX6_nodeBehind 66 = .ok (.bipush (-9), 2) := by decide +kernel
theorem dX6_nodeBehind_68 : decode cX6_nodeBehind 68 = .ok (.ireturn, 1) := by decide +kernel
theorem dJ6_bitCount_0f7a4_0 : decode cJ6_bitCount_0f7a4 0 = .ok (.iload_n 0, 1) := by decide +kernel
theorem dJ6_bitCount_0f7a4_1 : decode cJ6_bitCount_0f7a4 1 = .ok (.iload_n 0, 1) := by decide +kernel
theorem dJ6_bitCount_0f7a4_2 : decode cJ6_bitCount_0f7a4 2 = .ok (.iconst 1, 1) := by decide +kernel
theorem dJ6_bitCount_0f7a4_3 : decode cJ6_bitCount_0f7a4 3 = .ok (.iushr, 1) := by decide +kernel
theorem dJ6_bitCount_0f7a4_4 : decode cJ6_bitCount_0f7a4 4 = .ok (.ldc_w 265, 3) := by decide +kernel
theorem dJ6_bitCount_0f7a4_7 : decode cJ6_bitCount_0f7a4 7 = .ok (.iand, 1) := by decide +kernel
theorem dJ6_bitCount_0f7a4_8 : decode cJ6_bitCount_0f7a4 8 = .ok (.isub, 1) := by decide +kernel
theorem dJ6_bitCount_0f7a4_9 : decode cJ6_bitCount_0f7a4 9 = .ok (.istore_n 0, 1) := by decide +kernel
theorem dJ6_bitCount_0f7a4_10 : decode cJ6_bitCount_0f7a4 10 = .ok (.iload_n 0, 1) := by decide +kernel
theorem dJ6_bitCount_0f7a4_11 : decode cJ6_bitCount_0f7a4 11 = .ok (.ldc_w 266, 3) := by decide +kernel
theorem dJ6_bitCount_0f7a4_14 : decode cJ6_bitCount_0f7a4 14 = .ok (.iand, 1) := by decide +kernel
theorem dJ6_bitCount_0f7a4_15 : decode cJ6_bitCount_0f7a4 15 = .ok (.iload_n 0, 1) := by decide +kernel
theorem dJ6_bitCount_0f7a4_16 : decode cJ6_bitCount_0f7a4 16 = .ok (.iconst 2, 1) := by decide +kernel
theorem dJ6_bitCount_0f7a4_17 : decode cJ6_bitCount_0f7a4 17 = .ok (.iushr, 1) := by decide +kernel
theorem dJ6_bitCount_0f7a4_18 : decode cJ6_bitCount_0f7a4 18 = .ok (.ldc_w 266, 3) := by decide +kernel
theorem dJ6_bitCount_0f7a4_21 : decode cJ6_bitCount_0f7a4 21 = .ok (.iand, 1) := by decide +kernel
theorem dJ6_bitCount_0f7a4_22 : decode cJ6_bitCount_0f7a4 22 = .ok (.iadd, 1) := by decide +kernel
theorem dJ6_bitCount_0f7a4_23 : decode cJ6_bitCount_0f7a4 23 = .ok (.istore_n 0, 1) := by decide +kernel
theorem dJ6_bitCount_0f7a4_24 : decode cJ6_bitCount_0f7a4 24 = .ok (.iload_n 0, 1) := by decide +kernel
theorem dJ6_bitCount_0f7a4_25 : decode cJ6_bitCount_0f7a4 25 = .ok (.iload_n 0, 1) := by decide +kernel
theorem dJ6_bitCount_0f7a4_26 : decode cJ6_bitCount_0f7a4 26 = .ok (.iconst 4, 1) := by decide +kernel
theorem dJ6_bitCount_0f7a4_27 : decode cJ6_bitCount_0f7a4 27 = .ok (.iushr, 1) := by decide +kernel
theorem dJ6_bitCount_0f7a4_28 : decode cJ6_bitCount_0f7a4 28 = .ok (.iadd, 1) := by decide +kernel
theorem dJ6_bitCount_0f7a4_29 : decode cJ6_bitCount_0f7a4 29 = .ok (.ldc_w 267, 3) := by decide +kernel
theorem dJ6_bitCount_0f7a4_32 : decode cJ6_bitCount_0f7a4 32 = .ok (.iand, 1) := by decide +kernel
theorem dJ6_bitCount_0f7a4_33 : decode cJ6_bitCount_0f7a4 33 = .ok (.istore_n 0, 1) := by decide +kernel
theorem dJ6_bitCount_0f7a4_34 : decode cJ6_bitCount_0f7a4 34 = .ok (.iload_n 0, 1) := by decide +kernel
theorem dJ6_bitCount_0f7a4_35 : decode cJ6_bitCount_0f7a4 35 = .ok (.iload_n 0, 1) := by decide +kernel
theorem dJ6_bitCount_0f7a4_36 : decode cJ6_bitCount_0f7a4 36 = .ok (.bipush 8, 2) := by decide +kernel
theorem dJ6_bitCount_0f7a4_38 : decode cJ6_bitCount_0f7a4 38 = .ok (.iushr, 1) := by decide +kernel
theorem dJ6_bitCount_0f7a4_39 : decode cJ6_bitCount_0f7a4 39 = .ok (.iadd, 1) := by decide +kernel
theorem dJ6_bitCount_0f7a4_40 : decode cJ6_bitCount_0f7a4 40 = .ok (.istore_n 0, 1) := by decide +kernel
theorem dJ6_bitCount_0f7a4_41 : decode cJ6_bitCount_0f7a4 41 = .ok (.iload_n 0, 1) := by decide +kernel
theorem dJ6_bitCount_0f7a4_42 : decode cJ6_bitCount_0f7a4 42 = .ok (.iload_n 0, 1) := by decide +kernel
theorem dJ6_bitCount_0f7a4_43 : decode cJ6_bitCount_0f7a4 43 = .ok (.bipush 16, 2) := by decide +kernel
theorem dJ6_bitCount_0f7a4_45 : decode cJ6_bitCount_0f7a4 45 = .ok (.iushr, 1) := by decide +kernel
theorem dJ6_bitCount_0f7a4_46 : decode cJ6_bitCount_0f7a4 46 = .ok (.iadd, 1) := by decide +kernel
theorem dJ6_bitCount_0f7a4_47 : decode cJ6_bitCount_0f7a4 47 = .ok (.istore_n 0, 1) := by decide +kernel
theorem dJ6_bitCount_0f7a4_48 : decode cJ6_bitCount_0f7a4 48 = .ok (.iload_n 0, 1) := by decide +kernel
theorem dJ6_bitCount_0f7a4_49 : decode cJ6_bitCount_0f7a4 49 = .ok (.bipush 63, 2) := by decide +kernel
theorem dJ6_bitCount_0f7a4_51 : decode cJ6_bitCount_0f7a4 51 = .ok (.iand, 1) := by decide +kernel
theorem dJ6_bitCount_0f7a4_52 : decode cJ6_bitCount_0f7a4 52 = .ok (.ireturn, 1) := by decide +kernel
end
section
theorem dX7_init_0 : decode cX7_init 0 = .ok (.aload_n 0, 1) := by decide +kernel
theorem dX7_init_1 : decode cX7_init 1 = .ok (.invokespecial 1, 3) := by decide +kernel
theorem dX7_init_4 : decode cX7_init 4 = .ok (.aload_n 0, 1) := by decide +kernel
theorem dX7_init_5 : decode cX7_init 5 = .ok (.new 7, 3) := by decide +kernel
theorem dX7_init_8 : decode cX7_init 8 = .ok (.dup, 1) := by decide +kernel
theorem dX7_init_9 : decode cX7_init 9 = .ok (.invokespecial 9, 3) := by decide +kernel
theorem dX7_init_12 : decode cX7_init 12 = .ok (.putfield 10, 3) := by decide +kernel
theorem dX7_init_15 : decode cX7_init 15 = .ok (.aload_n 0, 1) := by decide +kernel
theorem dX7_init_16 : decode cX7_init 16 = .ok (.new 16, 3) := by decide +kernel
theorem dX7_init_19 : decode cX7_init 19 = .ok (.dup, 1) := by decide +kernel
theorem dX7_init_20 : decode cX7_init 20 = .ok (.invokespecial 18, 3) := by decide +kernel
theorem dX7_init_23 : decode cX7_init 23 = .ok (.putfield 19, 3) := by decide +kernel
theorem dX7_init_26 : decode cX7_init 26 = .ok (.aload_n 0, 1) := by decide +kernel
theorem dX7_init_27 : decode cX7_init 27 = .ok (.new 23, 3) := by decide +kernel
theorem dX7_init_30 : decode cX7_init 30 = .ok (.dup, 1) := by decide +kernel
theorem dX7_init_31 : decode cX7_init 31 = .ok (.invokespecial 25, 3) := by decide +kernel
theorem dX7_init_34 : decode cX7_init 34 = .ok (.putfield 26, 3) := by decide +kernel
theorem dX7_init_37 : decode cX7_init 37 = .ok (.aload_n 0, 1) := by decide +kernel
theorem dX7_init_38 : decode cX7_init 38 = .ok (.new 30, 3) := by decide +kernel
theorem dX7_init_41 : decode cX7_init 41 = .ok (.dup, 1) := by decide +kernel
theorem dX7_init_42 : decode cX7_init 42 = .ok (.invokespecial 32, 3) := by decide +kernel
theorem dX7_init_45 : decode cX7_init 45 = .ok (.putfield 33, 3) := by decide +kernel
theorem dX7_init_48 : decode cX7_init 48 = .ok (.aload_n 0, 1) := by decide +kernel
theorem dX7_init_49 : decode cX7_init 49 = .ok (.new 37, 3) := by decide +kernel
theorem dX7_init_52 : decode cX7_init 52 = .ok (.dup, 1) := by decide +kernel
theorem dX7_init_53 : decode cX7_init 53 = .ok (.invokespecial 39, 3) := by decide +kernel
theorem dX7_init_56 : decode cX7_init 56 = .ok (.putfield 40, 3) := by decide +kernel
theorem dX7_init_59 : decode cX7_init 59 = .ok (.aload_n 0, 1) := by decide +kernel
theorem dX7_init_60 : decode cX7_init 60 = .ok (.new 44, 3) := by decide +kernel
theorem dX7_init_63 : decode cX7_init 63 = .ok (.dup, 1) := by decide +kernel
theorem dX7_init_64 : decode cX7_init 64 = .ok (.aload_n 0, 1) := by decide +kernel
theorem dX7_init_65 : decode cX7_init 65 = .ok (.getfield 19, 3) := by decide +kernel
theorem dX7_init_68 : decode cX7_init 68 = .ok (.aload_n 0, 1) := by decide +kernel
theorem dX7_init_69 : decode cX7_init 69 = .ok (.getfield 26, 3) := by decide +kernel
theorem dX7_init_72 : decode cX7_init 72 = .ok (.invokespecial 46, 3) := by decide +kernel
theorem dX7_init_75 : decode cX7_init 75 = .ok (.putfield 49, 3) := by decide +kernel
theorem dX7_init_78 : decode cX7_init 78 = .ok (.aload_n 0, 1) := by decide +kernel
theorem dX7_init_79 : decode cX7_init 79 = .ok (.new 53, 3) := by decide +kernel
theorem dX7_init_82 : decode cX7_init 82 = .ok (.dup, 1) := by decide +kernel
theorem dX7_init_83 : decode cX7_init 83 = .ok (.aload_n 0, 1) := by decide +kernel
theorem dX7_init_84 : decode cX7_init 84 = .ok (.getfield 19, 3) := by decide +kernel
theorem dX7_init_87 : decode cX7_init 87 = .ok (.aload_n 0, 1) := by decide +kernel
theorem dX7_init_88 : decode cX7_init 88 = .ok (.getfield 49, 3) := by decide +kernel
theorem dX7_init_91 : decode cX7_init 91 = .ok (.invokespecial 55, 3) := by decide +kernel
theorem dX7_init_94 : decode cX7_init 94 = .ok (.putfield 58, 3) := by decide +kernel
theorem dX7_init_97 : decode cX7_init 97 = .ok (.aload_n 0, 1) := by decide +kernel
theorem dX7_init_98 : decode cX7_init 98 = .ok (.iconst 2, 1) := by decide +kernel
theorem dX7_init_99 : decode cX7_init 99 = .ok (.anewarray 23, 3) := by decide +kernel
theorem dX7_init_102 : decode cX7_init 102 = .ok (.dup, 1) := by decide +kernel
theorem dX7_init_103 : decode cX7_init 103 = .ok (.iconst 0, 1) := by decide +kernel
theorem dX7_init_104 : decode cX7_init 104 = .ok (.new 23, 3) := by decide +kernel
theorem dX7_init_107 : decode cX7_init 107 = .ok (.dup, 1) := by decide +kernel
theorem dX7_init_108 : decode cX7_init 108 = .ok (.invokespecial 25, 3) := by decide +kernel
theorem dX7_init_111 : decode cX7_init 111 = .ok (.aastore, 1) := by decide +kernel
theorem dX7_init_112 : decode cX7_init 112 = .ok (.dup, 1) := by decide +kernel
theorem dX7_init_113 : decode cX7_init 113 = .ok (.iconst 1, 1) := by decide +kernel
theorem dX7_init_114 : decode cX7_init 114 = .ok (.new 23, 3) := by decide +kernel
theorem dX7_init_117 : decode cX7_init 117 = .ok (.dup, 1) := by decide +kernel
theorem dX7_init_118 : decode cX7_init 118 = .ok (.invokespecial 25, 3) := by decide +kernel
theorem dX7_init_121 : decode cX7_init 121 = .ok (.aastore, 1) := by decide +kernel
theorem dX7_init_122 : decode cX7_init 122 = .ok (.putfield 62, 3) := by decide +kernel
theorem dX7_init_125 : decode cX7_init 125 = .ok (.aload_n 0, 1) := by decide +kernel
theorem dX7_init_126 : decode cX7_init 126 = .ok (.iconst 2, 1) := by decide +kernel
theorem dX7_init_127 : decode cX7_init 127 = .ok (.newarray .boolean, 2) := by decide +kernel
theorem dX7_init_129 : decode cX7_init 129 = .ok (.putfield 66, 3) := by decide +kernel
theorem dX7_init_132 : decode cX7_init 132 = .ok (.aload_n 0, 1) := by decide +kernel
theorem dX7_init_133 : decode cX7_init 133 = .ok (.iconst 3, 1) := by decide +kernel
theorem dX7_init_134 : decode cX7_init 134 = .ok (.newarray .int, 2) := by decide +kernel
theorem dX7_init_136 : decode cX7_init 136 = .ok (.putfield 70, 3) := by decide +kernel
theorem dX7_init_139 : decode cX7_init 139 = .ok (.return_, 1) := by decide +kernel
theorem dX7_type_0 : decode cX7_type 0 = .ok (.iload_n 1, 1) := by decide +kernel
theorem dX7_type_1 : decode cX7_type 1 = .ok (.ifCond .lt 10, 3) := by decide +kernel
theorem dX7_type_4 : decode cX7_type 4 = .ok (.iload_n 1, 1) := by decide +kernel
theorem dX7_type_5 : decode cX7_type 5 = .ok (.sipush 255, 3) := by decide +kernel
theorem dX7_type_8 : decode cX7_type 8 = .ok (.if_icmp .le 5, 3) := by decide +kernel
theorem dX7_type_11 : decode cX7_type 11 = .ok (.iconst (-1), 1) := by decide +kernel
theorem dX7_type_12 : decode cX7_type 12 = .ok (.ireturn, 1) := by decide +kernel
theorem dX7_type_13 : decode cX7_type 13 = .ok (.aload_n 0, 1) := by decide +kernel
theorem dX7_type_14 : decode cX7_type 14 = .ok (.getfield 10, 3) := by decide +kernel
theorem dX7_type_17 : decode cX7_type 17 = .ok (.iload_n 1, 1) := by decide +kernel
theorem dX7_type_18 : decode cX7_type 18 = .ok (.invokevirtual 74, 3) := by decide +kernel
theorem dX7_type_21 : decode cX7_type 21 = .ok (.ifCond .eq 13, 3) := by decide +kernel
theorem dX7_type_24 : decode cX7_type 24 = .ok (.aload_n 0, 1) := by decide +kernel
theorem dX7_type_25 : decode cX7_type 25 = .ok (.getfield 10, 3) := by decide +kernel
theorem dX7_type_28 : decode cX7_type 28 = .ok (.getfield 78, 3) := by decide +kernel
theorem dX7_type_31 : decode cX7_type 31 = .ok (.goto 5, 3) := by decide +kernel
theorem dX7_type_34 : decode cX7_type 34 = .ok (.bipush (-3), 2) := by decide +kernel
theorem dX7_type_36 : decode cX7_type 36 = .ok (.ireturn, 1) := by decide +kernel
theorem dX7_clear_0 : decode cX7_clear 0 = .ok (.aload_n 0, 1) := by decide +kernel
theorem dX7_clear_1 : decode cX7_clear 1 = .ok (.getfield 10, 3) := by decide +kernel
theorem dX7_clear_4 : decode cX7_clear 4 = .ok (.getfield 78, 3) := by decide +kernel
theorem dX7_clear_7 : decode cX7_clear 7 = .ok (.istore_n 1, 1) := by decide +kernel
theorem dX7_clear_8 : decode cX7_clear 8 = .ok (.aload_n 0, 1) := by decide +kernel
theorem dX7_clear_9 : decode cX7_clear 9 = .ok (.getfield 10, 3) := by decide +kernel
theorem dX7_clear_12 : decode cX7_clear 12 = .ok (.iconst 0, 1) := by decide +kernel
theorem dX7_clear_13 : decode cX7_clear 13 = .ok (.putfield 78, 3) := by decide +kernel
theorem dX7_clear_16 : decode cX7_clear 16 = .ok (.iload_n 1, 1) := by decide +kernel
theorem dX7_clear_17 : decode cX7_clear 17 = .ok (.ireturn, 1) := by decide +kernel
theorem dX7_net_0 : decode cX7_net 0 = .ok (.aload_n 0, 1) := by decide +kernel
theorem dX7_net_1 : decode cX7_net 1 = .ok (.getfield 10, 3) := by decide +kernel
theorem dX7_net_4 : decode cX7_net 4 = .ok (.invokevirtual 82, 3) := by decide +kernel
theorem dX7_net_7 : decode cX7_net 7 = .ok (.istore_n 1, 1) := by decide +kernel
theorem dX7_net_8 : decode cX7_net 8 = .ok (.iload_n 1, 1) := by decide +kernel
theorem dX7_net_9 : decode cX7_net 9 = .ok (.ifCond .ge 5, 3) := by decide +kernel
theorem dX7_net_12 : decode cX7_net 12 = .ok (.iload_n 1, 1) := by decide +kernel
theorem dX7_net_13 : decode cX7_net 13 = .ok (.ireturn, 1) := by decide +kernel
theorem dX7_net_14 : decode cX7_net 14 = .ok (.aload_n 0, 1) := by decide +kernel
theorem dX7_net_15 : decode cX7_net 15 = .ok (.getfield 19, 3) := by decide +kernel
theorem dX7_net_18 : decode cX7_net 18 = .ok (.aload_n 0, 1) := by decide +kernel
theorem dX7_net_19 : decode cX7_net 19 = .ok (.getfield 10, 3) := by decide +kernel
theorem dX7_net_22 : decode cX7_net 22 = .ok (.getfield 86, 3) := by decide +kernel
theorem dX7_net_25 : decode cX7_net 25 = .ok (.invokevirtual 89, 3) := by decide +kernel
theorem dX7_net_28 : decode cX7_net 28 = .ok (.aload_n 0, 1) := by decide +kernel
theorem dX7_net_29 : decode cX7_net 29 = .ok (.getfield 10, 3) := by decide +kernel
theorem dX7_net_32 : decode cX7_net 32 = .ok (.iconst 0, 1) := by decide +kernel
theorem dX7_net_33 : decode cX7_net 33 = .ok (.putfield 78, 3) := by decide +kernel
theorem dX7_net_36 : decode cX7_net 36 = .ok (.aload_n 0, 1) := by decide +kernel
theorem dX7_net_37 : decode cX7_net 37 = .ok (.getfield 26, 3) := by decide +kernel
theorem dX7_net_40 : decode cX7_net 40 = .ok (.invokevirtual 93, 3) := by decide +kernel
theorem dX7_net_43 : decode cX7_net 43 = .ok (.aload_n 0, 1) := by decide +kernel
theorem dX7_net_44 : decode cX7_net 44 = .ok (.getfield 33, 3) := by decide +kernel
theorem dX7_net_47 : decode cX7_net 47 = .ok (.iconst 0, 1) := by decide +kernel
theorem dX7_net_48 : decode cX7_net 48 = .ok (.putfield 96, 3) := by decide +kernel
theorem dX7_net_51 : decode cX7_net 51 = .ok (.aload_n 0, 1) := by decide +kernel
theorem dX7_net_52 : decode cX7_net 52 = .ok (.getfield 40, 3) := by decide +kernel
theorem dX7_net_55 : decode cX7_net 55 = .ok (.iconst 0, 1) := by decide +kernel
theorem dX7_net_56 : decode cX7_net 56 = .ok (.putfield 99, 3) := by decide +kernel
theorem dX7_net_59 : decode cX7_net 59 = .ok (.iconst 0, 1) := by decide +kernel
theorem dX7_net_60 : decode cX7_net 60 = .ok (.istore_n 2, 1) := by decide +kernel
theorem dX7_net_61 : decode cX7_net 61 = .ok (.iload_n 2, 1) := by decide +kernel
theorem dX7_net_62 : decode cX7_net 62 = .ok (.iconst 2, 1) := by decide +kernel
theorem dX7_net_63 : decode cX7_net 63 = .ok (.if_icmp .ge 16, 3) := by decide +kernel
theorem dX7_net_66 : decode cX7_net 66 = .ok (.aload_n 0, 1) := by decide +kernel
theorem dX7_net_67 : decode cX7_net 67 = .ok (.getfield 66, 3) := by decide +kernel
theorem dX7_net_70 : decode cX7_net 70 = .ok (.iload_n 2, 1) := by decide +kernel
theorem dX7_net_71 : decode cX7_net 71 = .ok (.iconst 0, 1) := by decide +kernel
theorem dX7_net_72 : decode cX7_net 72 = .ok (.bastore, 1) := by decide +kernel
theorem dX7_net_73 : decode cX7_net 73 = .ok (.iinc 2 1, 3) := by decide +kernel
theorem dX7_net_76 : decode cX7_net 76 = .ok (.goto (-15), 3) := by decide +kernel
theorem dX7_net_79 : decode cX7_net 79 = .ok (.aload_n 0, 1) := by decide +kernel
theorem dX7_net_80 : decode cX7_net 80 = .ok (.invokevirtual 102, 3) := by decide +kernel
theorem dX7_net_83 : decode cX7_net 83 = .ok (.iload_n 1, 1) := by decide +kernel
theorem dX7_net_84 : decode cX7_net 84 = .ok (.ireturn, 1) := by decide +kernel
theorem dX7_contact_0 : decode cX7_contact 0 = .ok (.aload_n 0, 1) := by decide +kernel
theorem dX7_contact_1 : decode cX7_contact 1 = .ok (.iload_n 1, 1) := by decide +kernel
theorem dX7_contact_2 : decode cX7_contact 2 = .ok (.invokevirtual 105, 3) := by decide +kernel
theorem dX7_contact_5 : decode cX7_contact 5 = .ok (.ifCond .ne 5, 3) := by decide +kernel
theorem dX7_contact_8 : decode cX7_contact 8 = .ok (.iconst (-1), 1) := by decide +kernel
theorem dX7_contact_9 : decode cX7_contact 9 = .ok (.ireturn, 1) := by decide +kernel
theorem dX7_contact_10 : decode cX7_contact 10 = .ok (.iload_n 2, 1) := by decide +kernel
theorem dX7_contact_11 : decode cX7_contact 11 = .ok (.tableswitch 129 0 6 #[41, 51, 61, 71, 81, 91, 119], 41) := by decide +kernel
theorem dX7_contact_52 : decode cX7_contact 52 = .ok (.aload_n 0, 1) := by decide +kernel
theorem dX7_contact_53 : decode cX7_contact 53 = .ok (.getfield 19, 3) := by decide +kernel
theorem dX7_contact_56 : decode cX7_contact 56 = .ok (.getfield 108, 3) := by decide +kernel
theorem dX7_contact_59 : decode cX7_contact 59 = .ok (.iload_n 1, 1) := by decide +kernel
theorem dX7_contact_60 : decode cX7_contact 60 = .ok (.iaload, 1) := by decide +kernel
theorem dX7_contact_61 : decode cX7_contact 61 = .ok (.ireturn, 1) := by decide +kernel
theorem dX7_contact_62 : decode cX7_contact 62 = .ok (.aload_n 0, 1) := by decide +kernel
theorem dX7_contact_63 : decode cX7_contact 63 = .ok (.getfield 19, 3) := by decide +kernel
theorem dX7_contact_66 : decode cX7_contact 66 = .ok (.getfield 111, 3) := by decide +kernel
theorem dX7_contact_69 : decode cX7_contact 69 = .ok (.iload_n 1, 1) := by decide +kernel
theorem dX7_contact_70 : decode cX7_contact 70 = .ok (.iaload, 1) := by decide +kernel
theorem dX7_contact_71 : decode cX7_contact 71 = .ok (.ireturn, 1) := by decide +kernel
theorem dX7_contact_72 : decode cX7_contact 72 = .ok (.aload_n 0, 1) := by decide +kernel
theorem dX7_contact_73 : decode cX7_contact 73 = .ok (.getfield 19, 3) := by decide +kernel
theorem dX7_contact_76 : decode cX7_contact 76 = .ok (.getfield 114, 3) := by decide +kernel
theorem dX7_contact_79 : decode cX7_contact 79 = .ok (.iload_n 1, 1) := by decide +kernel
theorem dX7_contact_80 : decode cX7_contact 80 = .ok (.iaload, 1) := by decide +kernel
theorem dX7_contact_81 : decode cX7_contact 81 = .ok (.ireturn, 1) := by decide +kernel
theorem dX7_contact_82 : decode cX7_contact 82 = .ok (.aload_n 0, 1) := by decide +kernel
theorem dX7_contact_83 : decode cX7_contact 83 = .ok (.getfield 19, 3) := by decide +kernel
theorem dX7_contact_86 : decode cX7_contact 86 = .ok (.getfield 117, 3) := by decide +kernel
theorem dX7_contact_89 : decode cX7_contact 89 = .ok (.iload_n 1, 1) := by decide +kernel
theorem dX7_contact_90 : decode cX7_contact 90 = .ok (.iaload, 1) := by decide +kernel
theorem dX7_contact_91 : decode cX7_contact 91 = .ok (.ireturn, 1) := by decide +kernel
theorem dX7_contact_92 : decode cX7_contact 92 = .ok (.aload_n 0, 1) := by decide +kernel
theorem dX7_contact_93 : decode cX7_contact 93 = .ok (.getfield 26, 3) := by decide +kernel
theorem dX7_contact_96 : decode cX7_contact 96 = .ok (.getfield 120, 3) := by decide +kernel
theorem dX7_contact_99 : decode cX7_contact 99 = .ok (.iload_n 1, 1) := by decide +kernel
theorem dX7_contact_100 : decode cX7_contact 100 = .ok (.iaload, 1) := by decide +kernel
theorem dX7_contact_101 : decode cX7_contact 101 = .ok (.ireturn, 1) := by decide +kernel
theorem dX7_contact_102 : decode cX7_contact 102 = .ok (.aload_n 0, 1) := by decide +kernel
theorem dX7_contact_103 : decode cX7_contact 103 = .ok (.getfield 26, 3) := by decide +kernel
theorem dX7_contact_106 : decode cX7_contact 106 = .ok (.getfield 120, 3) := by decide +kernel
theorem dX7_contact_109 : decode cX7_contact 109 = .ok (.iload_n 1, 1) := by decide +kernel
theorem dX7_contact_110 : decode cX7_contact 110 = .ok (.iaload, 1) := by decide +kernel
theorem dX7_contact_111 : decode cX7_contact 111 = .ok (.iconst 1, 1) := by decide +kernel
theorem dX7_contact_112 : decode cX7_contact 112 = .ok (.if_icmp .gt 15, 3) := by decide +kernel
theorem dX7_contact_115 : decode cX7_contact 115 = .ok (.aload_n 0, 1) := by decide +kernel
theorem dX7_contact_116 : decode cX7_contact 116 = .ok (.getfield 26, 3) := by decide +kernel
theorem dX7_contact_119 : decode cX7_contact 119 = .ok (.getfield 123, 3) := by decide +kernel
theorem dX7_contact_122 : decode cX7_contact 122 = .ok (.iload_n 1, 1) := by decide +kernel
theorem dX7_contact_123 : decode cX7_contact 123 = .ok (.iaload, 1) := by decide +kernel
theorem dX7_contact_124 : decode cX7_contact 124 = .ok (.goto 5, 3) := by decide +kernel
theorem dX7_contact_127 : decode cX7_contact 127 = .ok (.bipush (-9), 2) := by decide +kernel
theorem dX7_contact_129 : decode cX7_contact 129 = .ok (.ireturn, 1) := by decide +kernel
theorem dX7_contact_130 : decode cX7_contact 130 = .ok (.aload_n 0, 1) := by decide +kernel
theorem dX7_contact_131 : decode cX7_contact 131 = .ok (.getfield 26, 3) := by decide +kernel
theorem dX7_contact_134 : decode cX7_contact 134 = .ok (.getfield 126, 3) := by decide +kernel
theorem dX7_contact_137 : decode cX7_contact 137 = .ok (.iload_n 1, 1) := by decide +kernel
theorem dX7_contact_138 : decode cX7_contact 138 = .ok (.iaload, 1) := by decide +kernel
theorem dX7_contact_139 : decode cX7_contact 139 = .ok (.ireturn, 1) := by decide +kernel
theorem dX7_contact_140 : decode cX7_contact 140 = .ok (.iconst (-1), 1) := by decide +kernel
theorem dX7_contact_141 : decode cX7_contact 141 = .ok (.ireturn, 1) := by decide +kernel
theorem dX7_load_0 : decode cX7_load 0 = .ok (.aload_n 0, 1) := by decide +kernel
theorem dX7_load_1 : decode cX7_load 1 = .ok (.iload_n 1, 1) := by decide +kernel
theorem dX7_load_2 : decode cX7_load 2 = .ok (.invokevirtual 129, 3) := by decide +kernel
theorem dX7_load_5 : decode cX7_load 5 = .ok (.ifCond .ne 5, 3) := by decide +kernel
theorem dX7_load_8 : decode cX7_load 8 = .ok (.iconst (-1), 1) := by decide +kernel
theorem dX7_load_9 : decode cX7_load 9 = .ok (.ireturn, 1) := by decide +kernel
theorem dX7_load_10 : decode cX7_load 10 = .ok (.iload_n 2, 1) := by decide +kernel
theorem dX7_load_11 : decode cX7_load 11 = .ok (.tableswitch 105 0 5 #[37, 47, 53, 63, 81, 99], 37) := by decide +kernel
theorem dX7_load_48 : decode cX7_load 48 = .ok (.aload_n 0, 1) := by decide +kernel
theorem dX7_load_49 : decode cX7_load 49 = .ok (.getfield 19, 3) := by decide +kernel
theorem dX7_load_52 : decode cX7_load 52 = .ok (.getfield 132, 3) := by decide +kernel
theorem dX7_load_55 : decode cX7_load 55 = .ok (.iload_n 1, 1) := by decide +kernel
theorem dX7_load_56 : decode cX7_load 56 = .ok (.iaload, 1) := by decide +kernel
theorem dX7_load_57 : decode cX7_load 57 = .ok (.ireturn, 1) := by decide +kernel
theorem dX7_load_58 : decode cX7_load 58 = .ok (.aload_n 0, 1) := by decide +kernel
theorem dX7_load_59 : decode cX7_load 59 = .ok (.iload_n 1, 1) := by decide +kernel
theorem dX7_load_60 : decode cX7_load 60 = .ok (.invokevirtual 135, 3) := by decide +kernel
theorem dX7_load_63 : decode cX7_load 63 = .ok (.ireturn, 1) := by decide +kernel
theorem dX7_load_64 : decode cX7_load 64 = .ok (.aload_n 0, 1) := by decide +kernel
theorem dX7_load_65 : decode cX7_load 65 = .ok (.getfield 26, 3) := by decide +kernel
theorem dX7_load_68 : decode cX7_load 68 = .ok (.getfield 139, 3) := by decide +kernel
theorem dX7_load_71 : decode cX7_load 71 = .ok (.iload_n 1, 1) := by decide +kernel
theorem dX7_load_72 : decode cX7_load 72 = .ok (.iaload, 1) := by decide +kernel
theorem dX7_load_73 : decode cX7_load 73 = .ok (.ireturn, 1) := by decide +kernel
theorem dX7_load_74 : decode cX7_load 74 = .ok (.aload_n 0, 1) := by decide +kernel
theorem dX7_load_75 : decode cX7_load 75 = .ok (.iload_n 1, 1) := by decide +kernel
theorem dX7_load_76 : decode cX7_load 76 = .ok (.invokevirtual 135, 3) := by decide +kernel
theorem dX7_load_79 : decode cX7_load 79 = .ok (.aload_n 0, 1) := by decide +kernel
theorem dX7_load_80 : decode cX7_load 80 = .ok (.getfield 26, 3) := by decide +kernel
theorem dX7_load_83 : decode cX7_load 83 = .ok (.getfield 139, 3) := by decide +kernel
theorem dX7_load_86 : decode cX7_load 86 = .ok (.iload_n 1, 1) := by decide +kernel
theorem dX7_load_87 : decode cX7_load 87 = .ok (.iaload, 1) := by decide +kernel
theorem dX7_load_88 : decode cX7_load 88 = .ok (.iconst (-1), 1) := by decide +kernel
theorem dX7_load_89 : decode cX7_load 89 = .ok (.ixor, 1) := by decide +kernel
theorem dX7_load_90 : decode cX7_load 90 = .ok (.iand, 1) := by decide +kernel
theorem dX7_load_91 : decode cX7_load 91 = .ok (.ireturn, 1) := by decide +kernel
theorem dX7_load_92 : decode cX7_load 92 = .ok (.aload_n 0, 1) := by decide +kernel
theorem dX7_load_93 : decode cX7_load 93 = .ok (.getfield 26, 3) := by decide +kernel
theorem dX7_load_96 : decode cX7_load 96 = .ok (.getfield 139, 3) := by decide +kernel
theorem dX7_load_99 : decode cX7_load 99 = .ok (.iload_n 1, 1) := by decide +kernel
theorem dX7_load_100 : decode cX7_load 100 = .ok (.iaload, 1) := by decide +kernel
theorem dX7_load_101 : decode cX7_load 101 = .ok (.aload_n 0, 1) := by decide +kernel
theorem dX7_load_102 : decode cX7_load 102 = .ok (.iload_n 1, 1) := by decide +kernel
theorem dX7_load_103 : decode cX7_load 103 = .ok (.invokevirtual 135, 3) := by decide +kernel
theorem dX7_load_106 : decode cX7_load 106 = .ok (.iconst (-1), 1) := by decide +kernel
theorem dX7_load_107 : decode cX7_load 107 = .ok (.ixor, 1) := by decide +kernel
theorem dX7_load_108 : decode cX7_load 108 = .ok (.iand, 1) := by decide +kernel
theorem dX7_load_109 : decode cX7_load 109 = .ok (.ireturn, 1) := by decide +kernel
theorem dX7_load_110 : decode cX7_load 110 = .ok (.aload_n 0, 1) := by decide +kernel
theorem dX7_load_111 : decode cX7_load 111 = .ok (.iload_n 1, 1) := by decide +kernel
theorem dX7_load_112 : decode cX7_load 112 = .ok (.invokevirtual 142, 3) := by decide +kernel
theorem dX7_load_115 : decode cX7_load 115 = .ok (.ireturn, 1) := by decide +kernel
theorem dX7_load_116 : decode cX7_load 116 = .ok (.iconst (-1), 1) := by decide +kernel
theorem dX7_load_117 : decode cX7_load 117 = .ok (.ireturn, 1) := by decide +kernel
theorem dX7_wishes_0 : decode cX7_wishes 0 = .ok (.aload_n 0, 1) := by decide +kernel
theorem dX7_wishes_1 : decode cX7_wishes 1 = .ok (.iload_n 1, 1) := by decide +kernel
theorem dX7_wishes_2 : decode cX7_wishes 2 = .ok (.invokevirtual 129, 3) := by decide +kernel
theorem dX7_wishes_5 : decode cX7_wishes 5 = .ok (.ifCond .eq 13, 3) := by decide +kernel
theorem dX7_wishes_8 : decode cX7_wishes 8 = .ok (.iload_n 2, 1) := by decide +kernel
theorem dX7_wishes_9 : decode cX7_wishes 9 = .ok (.ifCond .lt 9, 3) := by decide +kernel
theorem dX7_wishes_12 : decode cX7_wishes 12 = .ok (.iload_n 2, 1) := by decide +kernel
theorem dX7_wishes_13 : decode cX7_wishes 13 = .ok (.ldc 145, 2) := by decide +kernel
theorem dX7_wishes_15 : decode cX7_wishes 15 = .ok (.if_icmp .le 5, 3) := by decide +kernel
theorem dX7_wishes_18 : decode cX7_wishes 18 = .ok (.iconst (-1), 1) := by decide +kernel
theorem dX7_wishes_19 : decode cX7_wishes 19 = .ok (.ireturn, 1) := by decide +kernel
theorem dX7_wishes_20 : decode cX7_wishes 20 = .ok (.aload_n 0, 1) := by decide +kernel
theorem dX7_wishes_21 : decode cX7_wishes 21 = .ok (.getfield 26, 3) := by decide +kernel
theorem dX7_wishes_24 : decode cX7_wishes 24 = .ok (.getfield 139, 3) := by decide +kernel
theorem dX7_wishes_27 : decode cX7_wishes 27 = .ok (.iload_n 1, 1) := by decide +kernel
theorem dX7_wishes_28 : decode cX7_wishes 28 = .ok (.iaload, 1) := by decide +kernel
theorem dX7_wishes_29 : decode cX7_wishes 29 = .ok (.istore_n 3, 1) := by decide +kernel
theorem dX7_wishes_30 : decode cX7_wishes 30 = .ok (.aload_n 0, 1) := by decide +kernel
theorem dX7_wishes_31 : decode cX7_wishes 31 = .ok (.getfield 33, 3) := by decide +kernel
theorem dX7_wishes_34 : decode cX7_wishes 34 = .ok (.iconst 0, 1) := by decide +kernel
theorem dX7_wishes_35 : decode cX7_wishes 35 = .ok (.iload_n 1, 1) := by decide +kernel
theorem dX7_wishes_36 : decode cX7_wishes 36 = .ok (.iload_n 3, 1) := by decide +kernel
theorem dX7_wishes_37 : decode cX7_wishes 37 = .ok (.iconst 0, 1) := by decide +kernel
theorem dX7_wishes_38 : decode cX7_wishes 38 = .ok (.invokevirtual 146, 3) := by decide +kernel
theorem dX7_wishes_41 : decode cX7_wishes 41 = .ok (.aload_n 0, 1) := by decide +kernel
theorem dX7_wishes_42 : decode cX7_wishes 42 = .ok (.getfield 26, 3) := by decide +kernel
theorem dX7_wishes_45 : decode cX7_wishes 45 = .ok (.getfield 139, 3) := by decide +kernel
theorem dX7_wishes_48 : decode cX7_wishes 48 = .ok (.iload_n 1, 1) := by decide +kernel
theorem dX7_wishes_49 : decode cX7_wishes 49 = .ok (.iload_n 2, 1) := by decide +kernel
theorem dX7_wishes_50 : decode cX7_wishes 50 = .ok (.iastore, 1) := by decide +kernel
theorem dX7_wishes_51 : decode cX7_wishes 51 = .ok (.iload_n 3, 1) := by decide +kernel
theorem dX7_wishes_52 : decode cX7_wishes 52 = .ok (.ireturn, 1) := by decide +kernel
theorem dX7_cures_0 : decode cX7_cures 0 = .ok (.aload_n 0, 1) := by decide +kernel
theorem dX7_cures_1 : decode cX7_cures 1 = .ok (.iload_n 1, 1) := by decide +kernel
theorem dX7_cures_2 : decode cX7_cures 2 = .ok (.invokevirtual 105, 3) := by decide +kernel
theorem dX7_cures_5 : decode cX7_cures 5 = .ok (.ifCond .eq 12, 3) := by decide +kernel
theorem dX7_cures_8 : decode cX7_cures 8 = .ok (.iload_n 2, 1) := by decide +kernel
theorem dX7_cures_9 : decode cX7_cures 9 = .ok (.ifCond .lt 8, 3) := by decide +kernel
theorem dX7_cures_12 : decode cX7_cures 12 = .ok (.iload_n 2, 1) := by decide +kernel
theorem dX7_cures_13 : decode cX7_cures 13 = .ok (.iconst 4, 1) := by decide +kernel
theorem dX7_cures_14 : decode cX7_cures 14 = .ok (.if_icmp .le 5, 3) := by decide +kernel
theorem dX7_cures_17 : decode cX7_cures 17 = .ok (.iconst (-1), 1) := by decide +kernel
theorem dX7_cures_18 : decode cX7_cures 18 = .ok (.ireturn, 1) := by decide +kernel
theorem dX7_cures_19 : decode cX7_cures 19 = .ok (.iload_n 3, 1) := by decide +kernel
theorem dX7_cures_20 : decode cX7_cures 20 = .ok (.ifCond .lt 11, 3) := by decide +kernel
theorem dX7_cures_23 : decode cX7_cures 23 = .ok (.iload_n 3, 1) := by decide +kernel
theorem dX7_cures_24 : decode cX7_cures 24 = .ok (.iload_n 2, 1) := by decide +kernel
theorem dX7_cures_25 : decode cX7_cures 25 = .ok (.invokestatic 150, 3) := by decide +kernel
theorem dX7_cures_28 : decode cX7_cures 28 = .ok (.if_icmp .lt 5, 3) := by decide +kernel
theorem dX7_cures_31 : decode cX7_cures 31 = .ok (.iconst (-1), 1) := by decide +kernel
theorem dX7_cures_32 : decode cX7_cures 32 = .ok (.ireturn, 1) := by decide +kernel
theorem dX7_cures_33 : decode cX7_cures 33 = .ok (.aload_n 0, 1) := by decide +kernel
theorem dX7_cures_34 : decode cX7_cures 34 = .ok (.getfield 26, 3) := by decide +kernel
theorem dX7_cures_37 : decode cX7_cures 37 = .ok (.getfield 120, 3) := by decide +kernel
theorem dX7_cures_40 : decode cX7_cures 40 = .ok (.iload_n 1, 1) := by decide +kernel
theorem dX7_cures_41 : decode cX7_cures 41 = .ok (.iaload, 1) := by decide +kernel
theorem dX7_cures_42 : decode cX7_cures 42 = .ok (.istore 4, 2) := by decide +kernel
theorem dX7_cures_44 : decode cX7_cures 44 = .ok (.aload_n 0, 1) := by decide +kernel
theorem dX7_cures_45 : decode cX7_cures 45 = .ok (.getfield 26, 3) := by decide +kernel
theorem dX7_cures_48 : decode cX7_cures 48 = .ok (.getfield 123, 3) := by decide +kernel
theorem dX7_cures_51 : decode cX7_cures 51 = .ok (.iload_n 1, 1) := by decide +kernel
theorem dX7_cures_52 : decode cX7_cures 52 = .ok (.iaload, 1) := by decide +kernel
theorem dX7_cures_53 : decode cX7_cures 53 = .ok (.istore 5, 2) := by decide +kernel
theorem dX7_cures_55 : decode cX7_cures 55 = .ok (.iload 4, 2) := by decide +kernel
theorem dX7_cures_57 : decode cX7_cures 57 = .ok (.iload_n 2, 1) := by decide +kernel
theorem dX7_cures_58 : decode cX7_cures 58 = .ok (.if_icmp .ne 12, 3) := by decide +kernel
theorem dX7_cures_61 : decode cX7_cures 61 = .ok (.iload 5, 2) := by decide +kernel
theorem dX7_cures_63 : decode cX7_cures 63 = .ok (.iload_n 3, 1) := by decide +kernel
theorem dX7_cures_64 : decode cX7_cures 64 = .ok (.if_icmp .ne 6, 3) := by decide +kernel
theorem dX7_cures_67 : decode cX7_cures 67 = .ok (.bipush (-2), 2) := by decide +kernel
theorem dX7_cures_69 : decode cX7_cures 69 = .ok (.ireturn, 1) := by decide +kernel
theorem dX7_cures_70 : decode cX7_cures 70 = .ok (.aload_n 0, 1) := by decide +kernel
theorem dX7_cures_71 : decode cX7_cures 71 = .ok (.getfield 33, 3) := by decide +kernel
theorem dX7_cures_74 : decode cX7_cures 74 = .ok (.iconst 1, 1) := by decide +kernel
theorem dX7_cures_75 : decode cX7_cures 75 = .ok (.iload_n 1, 1) := by decide +kernel
theorem dX7_cures_76 : decode cX7_cures 76 = .ok (.iload 4, 2) := by decide +kernel
theorem dX7_cures_78 : decode cX7_cures 78 = .ok (.iload 5, 2) := by decide +kernel
theorem dX7_cures_80 : decode cX7_cures 80 = .ok (.invokevirtual 146, 3) := by decide +kernel
theorem dX7_cures_83 : decode cX7_cures 83 = .ok (.aload_n 0, 1) := by decide +kernel
theorem dX7_cures_84 : decode cX7_cures 84 = .ok (.getfield 26, 3) := by decide +kernel
theorem dX7_cures_87 : decode cX7_cures 87 = .ok (.getfield 120, 3) := by decide +kernel
theorem dX7_cures_90 : decode cX7_cures 90 = .ok (.iload_n 1, 1) := by decide +kernel
theorem dX7_cures_91 : decode cX7_cures 91 = .ok (.iload_n 2, 1) := by decide +kernel
theorem dX7_cures_92 : decode cX7_cures 92 = .ok (.iastore, 1) := by decide +kernel
theorem dX7_cures_93 : decode cX7_cures 93 = .ok (.aload_n 0, 1) := by decide +kernel
theorem dX7_cures_94 : decode cX7_cures 94 = .ok (.getfield 26, 3) := by decide +kernel
theorem dX7_cures_97 : decode cX7_cures 97 = .ok (.getfield 123, 3) := by decide +kernel
theorem dX7_cures_100 : decode cX7_cures 100 = .ok (.iload_n 1, 1) := by decide +kernel
theorem dX7_cures_101 : decode cX7_cures 101 = .ok (.iload_n 3, 1) := by decide +kernel
theorem dX7_cures_102 : decode cX7_cures 102 = .ok (.iastore, 1) := by decide +kernel
theorem dX7_cures_103 : decode cX7_cures 103 = .ok (.iload 4, 2) := by decide +kernel
theorem dX7_cures_105 : decode cX7_cures 105 = .ok (.ireturn, 1) := by decide +kernel
theorem dX7_sticks_0 : decode cX7_sticks 0 = .ok (.aload_n 0, 1) := by decide +kernel
theorem dX7_sticks_1 : decode cX7_sticks 1 = .ok (.iload_n 1, 1) := by decide +kernel
theorem dX7_sticks_2 : decode cX7_sticks 2 = .ok (.invokevirtual 105, 3) := by decide +kernel
theorem dX7_sticks_5 : decode cX7_sticks 5 = .ok (.ifCond .eq 12, 3) := by decide +kernel
theorem dX7_sticks_8 : decode cX7_sticks 8 = .ok (.iload_n 2, 1) := by decide +kernel
theorem dX7_sticks_9 : decode cX7_sticks 9 = .ok (.ifCond .lt 8, 3) := by decide +kernel
theorem dX7_sticks_12 : decode cX7_sticks 12 = .ok (.iload_n 2, 1) := by decide +kernel
theorem dX7_sticks_13 : decode cX7_sticks 13 = .ok (.iconst 2, 1) := by decide +kernel
theorem dX7_sticks_14 : decode cX7_sticks 14 = .ok (.if_icmp .le 5, 3) := by decide +kernel
theorem dX7_sticks_17 : decode cX7_sticks 17 = .ok (.iconst (-1), 1) := by decide +kernel
theorem dX7_sticks_18 : decode cX7_sticks 18 = .ok (.ireturn, 1) := by decide +kernel
theorem dX7_sticks_19 : decode cX7_sticks 19 = .ok (.aload_n 0, 1) := by decide +kernel
theorem dX7_sticks_20 : decode cX7_sticks 20 = .ok (.getfield 26, 3) := by decide +kernel
theorem dX7_sticks_23 : decode cX7_sticks 23 = .ok (.getfield 126, 3) := by decide +kernel
theorem dX7_sticks_26 : decode cX7_sticks 26 = .ok (.iload_n 1, 1) := by decide +kernel
theorem dX7_sticks_27 : decode cX7_sticks 27 = .ok (.iaload, 1) := by decide +kernel
theorem dX7_sticks_28 : decode cX7_sticks 28 = .ok (.istore_n 3, 1) := by decide +kernel
theorem dX7_sticks_29 : decode cX7_sticks 29 = .ok (.iload_n 3, 1) := by decide +kernel
theorem dX7_sticks_30 : decode cX7_sticks 30 = .ok (.iload_n 2, 1) := by decide +kernel
theorem dX7_sticks_31 : decode cX7_sticks 31 = .ok (.if_icmp .ne 6, 3) := by decide +kernel
theorem dX7_sticks_34 : decode cX7_sticks 34 = .ok (.bipush (-2), 2) := by decide +kernel
theorem dX7_sticks_36 : decode cX7_sticks 36 = .ok (.ireturn, 1) := by decide +kernel
theorem dX7_sticks_37 : decode cX7_sticks 37 = .ok (.aload_n 0, 1) := by decide +kernel
theorem dX7_sticks_38 : decode cX7_sticks 38 = .ok (.getfield 33, 3) := by decide +kernel
theorem dX7_sticks_41 : decode cX7_sticks 41 = .ok (.iconst 2, 1) := by decide +kernel
theorem dX7_sticks_42 : decode cX7_sticks 42 = .ok (.iload_n 1, 1) := by decide +kernel
theorem dX7_sticks_43 : decode cX7_sticks 43 = .ok (.iload_n 3, 1) := by decide +kernel
theorem dX7_sticks_44 : decode cX7_sticks 44 = .ok (.iconst 0, 1) := by decide +kernel
theorem dX7_sticks_45 : decode cX7_sticks 45 = .ok (.invokevirtual 146, 3) := by decide +kernel
theorem dX7_sticks_48 : decode cX7_sticks 48 = .ok (.aload_n 0, 1) := by decide +kernel
theorem dX7_sticks_49 : decode cX7_sticks 49 = .ok (.getfield 26, 3) := by decide +kernel
theorem dX7_sticks_52 : decode cX7_sticks 52 = .ok (.getfield 126, 3) := by decide +kernel
theorem dX7_sticks_55 : decode cX7_sticks 55 = .ok (.iload_n 1, 1) := by decide +kernel
theorem dX7_sticks_56 : decode cX7_sticks 56 = .ok (.iload_n 2, 1) := by decide +kernel
theorem dX7_sticks_57 : decode cX7_sticks 57 = .ok (.iastore, 1) := by decide +kernel
theorem dX7_sticks_58 : decode cX7_sticks 58 = .ok (.iload_n 3, 1) := by decide +kernel
theorem dX7_sticks_59 : decode cX7_sticks 59 = .ok (.ireturn, 1) := by decide +kernel
theorem dX7_undo_0 : decode cX7_undo 0 = .ok (.aload_n 0, 1) := by decide +kernel
theorem dX7_undo_1 : decode cX7_undo 1 = .ok (.getfield 33, 3) := by decide +kernel
theorem dX7_undo_4 : decode cX7_undo 4 = .ok (.getfield 96, 3) := by decide +kernel
theorem dX7_undo_7 : decode cX7_undo 7 = .ok (.ifCond .ne 6, 3) := by decide +kernel
theorem dX7_undo_10 : decode cX7_undo 10 = .ok (.bipush (-2), 2) := by decide +kernel
theorem dX7_undo_12 : decode cX7_undo 12 = .ok (.ireturn, 1) := by decide +kernel
theorem dX7_undo_13 : decode cX7_undo 13 = .ok (.aload_n 0, 1) := by decide +kernel
theorem dX7_undo_14 : decode cX7_undo 14 = .ok (.getfield 33, 3) := by decide +kernel
theorem dX7_undo_17 : decode cX7_undo 17 = .ok (.aload_n 0, 1) := by decide +kernel
theorem dX7_undo_18 : decode cX7_undo 18 = .ok (.getfield 26, 3) := by decide +kernel
theorem dX7_undo_21 : decode cX7_undo 21 = .ok (.invokevirtual 153, 3) := by decide +kernel
theorem dX7_undo_24 : decode cX7_undo 24 = .ok (.aload_n 0, 1) := by decide +kernel
theorem dX7_undo_25 : decode cX7_undo 25 = .ok (.getfield 33, 3) := by decide +kernel
theorem dX7_undo_28 : decode cX7_undo 28 = .ok (.getfield 96, 3) := by decide +kernel
theorem dX7_undo_31 : decode cX7_undo 31 = .ok (.ireturn, 1) := by decide +kernel
theorem dX7_path_0 : decode cX7_path 0 = .ok (.aload_n 0, 1) := by decide +kernel
theorem dX7_path_1 : decode cX7_path 1 = .ok (.iload_n 1, 1) := by decide +kernel
theorem dX7_path_2 : decode cX7_path 2 = .ok (.invokevirtual 129, 3) := by decide +kernel
theorem dX7_path_5 : decode cX7_path 5 = .ok (.ifCond .eq 16, 3) := by decide +kernel
theorem dX7_path_8 : decode cX7_path 8 = .ok (.iload_n 2, 1) := by decide +kernel
theorem dX7_path_9 : decode cX7_path 9 = .ok (.ifCond .lt 12, 3) := by decide +kernel
theorem dX7_path_12 : decode cX7_path 12 = .ok (.iload_n 3, 1) := by decide +kernel
theorem dX7_path_13 : decode cX7_path 13 = .ok (.ifCond .lt 8, 3) := by decide +kernel
theorem dX7_path_16 : decode cX7_path 16 = .ok (.iload_n 3, 1) := by decide +kernel
theorem dX7_path_17 : decode cX7_path 17 = .ok (.iconst 2, 1) := by decide +kernel
theorem dX7_path_18 : decode cX7_path 18 = .ok (.if_icmp .le 5, 3) := by decide +kernel
theorem dX7_path_21 : decode cX7_path 21 = .ok (.iconst (-1), 1) := by decide +kernel
theorem dX7_path_22 : decode cX7_path 22 = .ok (.ireturn, 1) := by decide +kernel
theorem dX7_path_23 : decode cX7_path 23 = .ok (.aload_n 0, 1) := by decide +kernel
theorem dX7_path_24 : decode cX7_path 24 = .ok (.getfield 49, 3) := by decide +kernel
theorem dX7_path_27 : decode cX7_path 27 = .ok (.invokevirtual 157, 3) := by decide +kernel
theorem dX7_path_30 : decode cX7_path 30 = .ok (.aload_n 0, 1) := by decide +kernel
theorem dX7_path_31 : decode cX7_path 31 = .ok (.getfield 58, 3) := by decide +kernel
theorem dX7_path_34 : decode cX7_path 34 = .ok (.iload_n 1, 1) := by decide +kernel
theorem dX7_path_35 : decode cX7_path 35 = .ok (.iload_n 2, 1) := by decide +kernel
theorem dX7_path_36 : decode cX7_path 36 = .ok (.bipush (-9), 2) := by decide +kernel
theorem dX7_path_38 : decode cX7_path 38 = .ok (.invokevirtual 160, 3) := by decide +kernel
theorem dX7_path_41 : decode cX7_path 41 = .ok (.iload_n 2, 1) := by decide +kernel
theorem dX7_path_42 : decode cX7_path 42 = .ok (.aload_n 0, 1) := by decide +kernel
theorem dX7_path_43 : decode cX7_path 43 = .ok (.getfield 58, 3) := by decide +kernel
theorem dX7_path_46 : decode cX7_path 46 = .ok (.getfield 164, 3) := by decide +kernel
theorem dX7_path_49 : decode cX7_path 49 = .ok (.if_icmp .lt 6, 3) := by decide +kernel
theorem dX7_path_52 : decode cX7_path 52 = .ok (.bipush (-9), 2) := by decide +kernel
theorem dX7_path_54 : decode cX7_path 54 = .ok (.ireturn, 1) := by decide +kernel
theorem dX7_path_55 : decode cX7_path 55 = .ok (.iload_n 3, 1) := by decide +kernel
theorem dX7_path_56 : decode cX7_path 56 = .ok (.ifCond .ne 11, 3) := by decide +kernel
theorem dX7_path_59 : decode cX7_path 59 = .ok (.aload_n 0, 1) := by decide +kernel
theorem dX7_path_60 : decode cX7_path 60 = .ok (.getfield 58, 3) := by decide +kernel
theorem dX7_path_63 : decode cX7_path 63 = .ok (.getfield 167, 3) := by decide +kernel
theorem dX7_path_66 : decode cX7_path 66 = .ok (.ireturn, 1) := by decide +kernel
theorem dX7_path_67 : decode cX7_path 67 = .ok (.iload_n 3, 1) := by decide +kernel
theorem dX7_path_68 : decode cX7_path 68 = .ok (.iconst 1, 1) := by decide +kernel
theorem dX7_path_69 : decode cX7_path 69 = .ok (.if_icmp .ne 13, 3) := by decide +kernel
theorem dX7_path_72 : decode cX7_path 72 = .ok (.aload_n 0, 1) := by decide +kernel
theorem dX7_path_73 : decode cX7_path 73 = .ok (.getfield 58, 3) := by decide +kernel
theorem dX7_path_76 : decode cX7_path 76 = .ok (.getfield 170, 3) := by decide +kernel
theorem dX7_path_79 : decode cX7_path 79 = .ok (.goto 10, 3) := by decide +kernel
theorem dX7_path_82 : decode cX7_path 82 = .ok (.aload_n 0, 1) := by decide +kernel
theorem dX7_path_83 : decode cX7_path 83 = .ok (.getfield 58, 3) := by decide +kernel
theorem dX7_path_86 : decode cX7_path 86 = .ok (.getfield 171, 3) := by decide +kernel
theorem dX7_path_89 : decode cX7_path 89 = .ok (.ireturn, 1) := by decide +kernel
theorem dX7_shortest_0 : decode cX7_shortest 0 = .ok (.aload_n 0, 1) := by decide +kernel
theorem dX7_shortest_1 : decode cX7_shortest 1 = .ok (.iload_n 1, 1) := by decide +kernel
theorem dX7_shortest_2 : decode cX7_shortest 2 = .ok (.invokevirtual 129, 3) := by decide +kernel
theorem dX7_shortest_5 : decode cX7_shortest 5 = .ok (.ifCond .eq 15, 3) := by decide +kernel
theorem dX7_shortest_8 : decode cX7_shortest 8 = .ok (.iload_n 2, 1) := by decide +kernel
theorem dX7_shortest_9 : decode cX7_shortest 9 = .ok (.invokestatic 174, 3) := by decide +kernel
theorem dX7_shortest_12 : decode cX7_shortest 12 = .ok (.ifCond .eq 8, 3) := by decide +kernel
theorem dX7_shortest_15 : decode cX7_shortest 15 = .ok (.iload_n 3, 1) := by decide +kernel
theorem dX7_shortest_16 : decode cX7_shortest 16 = .ok (.iconst (-1), 1) := by decide +kernel
theorem dX7_shortest_17 : decode cX7_shortest 17 = .ok (.if_icmp .ge 5, 3) := by decide +kernel
theorem dX7_shortest_20 : decode cX7_shortest 20 = .ok (.iconst (-1), 1) := by decide +kernel
theorem dX7_shortest_21 : decode cX7_shortest 21 = .ok (.ireturn, 1) := by decide +kernel
theorem dX7_shortest_22 : decode cX7_shortest 22 = .ok (.aload_n 0, 1) := by decide +kernel
theorem dX7_shortest_23 : decode cX7_shortest 23 = .ok (.getfield 49, 3) := by decide +kernel
theorem dX7_shortest_26 : decode cX7_shortest 26 = .ok (.invokevirtual 157, 3) := by decide +kernel
theorem dX7_shortest_29 : decode cX7_shortest 29 = .ok (.aload_n 0, 1) := by decide +kernel
theorem dX7_shortest_30 : decode cX7_shortest 30 = .ok (.getfield 58, 3) := by decide +kernel
theorem dX7_shortest_33 : decode cX7_shortest 33 = .ok (.iload_n 1, 1) := by decide +kernel
theorem dX7_shortest_34 : decode cX7_shortest 34 = .ok (.bipush (-9), 2) := by decide +kernel
theorem dX7_shortest_36 : decode cX7_shortest 36 = .ok (.iload_n 2, 1) := by decide +kernel
theorem dX7_shortest_37 : decode cX7_shortest 37 = .ok (.invokevirtual 160, 3) := by decide +kernel
theorem dX7_shortest_40 : decode cX7_shortest 40 = .ok (.aload_n 0, 1) := by decide +kernel
theorem dX7_shortest_41 : decode cX7_shortest 41 = .ok (.getfield 58, 3) := by decide +kernel
theorem dX7_shortest_44 : decode cX7_shortest 44 = .ok (.getfield 177, 3) := by decide +kernel
theorem dX7_shortest_47 : decode cX7_shortest 47 = .ok (.ifCond .eq 14, 3) := by decide +kernel
theorem dX7_shortest_50 : decode cX7_shortest 50 = .ok (.iload_n 3, 1) := by decide +kernel
theorem dX7_shortest_51 : decode cX7_shortest 51 = .ok (.aload_n 0, 1) := by decide +kernel
theorem dX7_shortest_52 : decode cX7_shortest 52 = .ok (.getfield 58, 3) := by decide +kernel
theorem dX7_shortest_55 : decode cX7_shortest 55 = .ok (.getfield 177, 3) := by decide +kernel
theorem dX7_shortest_58 : decode cX7_shortest 58 = .ok (.if_icmp .lt 6, 3) := by decide +kernel
theorem dX7_shortest_61 : decode cX7_shortest 61 = .ok (.bipush (-9), 2) := by decide +kernel
theorem dX7_shortest_63 : decode cX7_shortest 63 = .ok (.ireturn, 1) := by decide +kernel
theorem dX7_shortest_64 : decode cX7_shortest 64 = .ok (.iload_n 3, 1) := by decide +kernel
theorem dX7_shortest_65 : decode cX7_shortest 65 = .ok (.ifCond .ge 13, 3) := by decide +kernel
theorem dX7_shortest_68 : decode cX7_shortest 68 = .ok (.aload_n 0, 1) := by decide +kernel
theorem dX7_shortest_69 : decode cX7_shortest 69 = .ok (.getfield 58, 3) := by decide +kernel
theorem dX7_shortest_72 : decode cX7_shortest 72 = .ok (.getfield 177, 3) := by decide +kernel
theorem dX7_shortest_75 : decode cX7_shortest 75 = .ok (.goto 12, 3) := by decide +kernel
theorem dX7_shortest_78 : decode cX7_shortest 78 = .ok (.aload_n 0, 1) := by decide +kernel
theorem dX7_shortest_79 : decode cX7_shortest 79 = .ok (.getfield 58, 3) := by decide +kernel
theorem dX7_shortest_82 : decode cX7_shortest 82 = .ok (.getfield 180, 3) := by decide +kernel
theorem dX7_shortest_85 : decode cX7_shortest 85 = .ok (.iload_n 3, 1) := by decide +kernel
theorem dX7_shortest_86 : decode cX7_shortest 86 = .ok (.iaload, 1) := by decide +kernel
theorem dX7_shortest_87 : decode cX7_shortest 87 = .ok (.ireturn, 1) := by decide +kernel
theorem dX7_parting_0 : decode cX7_parting 0 = .ok (.aload_n 0, 1) := by decide +kernel
theorem dX7_parting_1 : decode cX7_parting 1 = .ok (.iload_n 1, 1) := by decide +kernel
theorem dX7_parting_2 : decode cX7_parting 2 = .ok (.invokevirtual 129, 3) := by decide +kernel
theorem dX7_parting_5 : decode cX7_parting 5 = .ok (.ifCond .eq 10, 3) := by decide +kernel
theorem dX7_parting_8 : decode cX7_parting 8 = .ok (.iload_n 2, 1) := by decide +kernel
theorem dX7_parting_9 : decode cX7_parting 9 = .ok (.invokestatic 174, 3) := by decide +kernel
theorem dX7_parting_12 : decode cX7_parting 12 = .ok (.ifCond .ne 5, 3) := by decide +kernel
theorem dX7_parting_15 : decode cX7_parting 15 = .ok (.iconst (-1), 1) := by decide +kernel
theorem dX7_parting_16 : decode cX7_parting 16 = .ok (.ireturn, 1) := by decide +kernel
theorem dX7_parting_17 : decode cX7_parting 17 = .ok (.aload_n 0, 1) := by decide +kernel
theorem dX7_parting_18 : decode cX7_parting 18 = .ok (.getfield 49, 3) := by decide +kernel
theorem dX7_parting_21 : decode cX7_parting 21 = .ok (.invokevirtual 157, 3) := by decide +kernel
theorem dX7_parting_24 : decode cX7_parting 24 = .ok (.iconst 1, 1) := by decide +kernel
theorem dX7_parting_25 : decode cX7_parting 25 = .ok (.aload_n 0, 1) := by decide +kernel
theorem dX7_parting_26 : decode cX7_parting 26 = .ok (.getfield 19, 3) := by decide +kernel
theorem dX7_parting_29 : decode cX7_parting 29 = .ok (.getfield 183, 3) := by decide +kernel
theorem dX7_parting_32 : decode cX7_parting 32 = .ok (.ishl, 1) := by decide +kernel
theorem dX7_parting_33 : decode cX7_parting 33 = .ok (.istore_n 3, 1) := by decide +kernel
theorem dX7_parting_34 : decode cX7_parting 34 = .ok (.iload_n 3, 1) := by decide +kernel
theorem dX7_parting_35 : decode cX7_parting 35 = .ok (.iconst 1, 1) := by decide +kernel
theorem dX7_parting_36 : decode cX7_parting 36 = .ok (.isub, 1) := by decide +kernel
theorem dX7_parting_37 : decode cX7_parting 37 = .ok (.istore 4, 2) := by decide +kernel
theorem dX7_parting_39 : decode cX7_parting 39 = .ok (.aload_n 0, 1) := by decide +kernel
theorem dX7_parting_40 : decode cX7_parting 40 = .ok (.getfield 19, 3) := by decide +kernel
theorem dX7_parting_43 : decode cX7_parting 43 = .ok (.getfield 183, 3) := by decide +kernel
theorem dX7_parting_46 : decode cX7_parting 46 = .ok (.iconst 1, 1) := by decide +kernel
theorem dX7_parting_47 : decode cX7_parting 47 = .ok (.iadd, 1) := by decide +kernel
theorem dX7_parting_48 : decode cX7_parting 48 = .ok (.istore 5, 2) := by decide +kernel
theorem dX7_parting_50 : decode cX7_parting 50 = .ok (.iconst 0, 1) := by decide +kernel
theorem dX7_parting_51 : decode cX7_parting 51 = .ok (.istore 6, 2) := by decide +kernel
theorem dX7_parting_53 : decode cX7_parting 53 = .ok (.iload 6, 2) := by decide +kernel
theorem dX7_parting_55 : decode cX7_parting 55 = .ok (.iload_n 3, 1) := by decide +kernel
theorem dX7_parting_56 : decode cX7_parting 56 = .ok (.if_icmp .ge 45, 3) := by decide +kernel
theorem dX7_parting_59 : decode cX7_parting 59 = .ok (.iload 6, 2) := by decide +kernel
theorem dX7_parting_61 : decode cX7_parting 61 = .ok (.invokestatic 186, 3) := by decide +kernel
theorem dX7_parting_64 : decode cX7_parting 64 = .ok (.istore 7, 2) := by decide +kernel
theorem dX7_parting_66 : decode cX7_parting 66 = .ok (.iload 7, 2) := by decide +kernel
theorem dX7_parting_68 : decode cX7_parting 68 = .ok (.iload 5, 2) := by decide +kernel
theorem dX7_parting_70 : decode cX7_parting 70 = .ok (.if_icmp .ge 25, 3) := by decide +kernel
theorem dX7_parting_73 : decode cX7_parting 73 = .ok (.aload_n 0, 1) := by decide +kernel
theorem dX7_parting_74 : decode cX7_parting 74 = .ok (.getfield 49, 3) := by decide +kernel
theorem dX7_parting_77 : decode cX7_parting 77 = .ok (.iload 6, 2) := by decide +kernel
theorem dX7_parting_79 : decode cX7_parting 79 = .ok (.iload_n 1, 1) := by decide +kernel
theorem dX7_parting_80 : decode cX7_parting 80 = .ok (.iload_n 2, 1) := by decide +kernel
theorem dX7_parting_81 : decode cX7_parting 81 = .ok (.invokevirtual 191, 3) := by decide +kernel
theorem dX7_parting_84 : decode cX7_parting 84 = .ok (.ifCond .ne 11, 3) := by decide +kernel
theorem dX7_parting_87 : decode cX7_parting 87 = .ok (.iload 6, 2) := by decide +kernel
theorem dX7_parting_89 : decode cX7_parting 89 = .ok (.istore 4, 2) := by decide +kernel
theorem dX7_parting_91 : decode cX7_parting 91 = .ok (.iload 7, 2) := by decide +kernel
theorem dX7_parting_93 : decode cX7_parting 93 = .ok (.istore 5, 2) := by decide +kernel
theorem dX7_parting_95 : decode cX7_parting 95 = .ok (.iinc 6 1, 3) := by decide +kernel
theorem dX7_parting_98 : decode cX7_parting 98 = .ok (.goto (-45), 3) := by decide +kernel
theorem dX7_parting_101 : decode cX7_parting 101 = .ok (.iload 4, 2) := by decide +kernel
theorem dX7_parting_103 : decode cX7_parting 103 = .ok (.ireturn, 1) := by decide +kernel
theorem dX7_enough_0 : decode cX7_enough 0 = .ok (.iload_n 1, 1) := by decide +kernel
theorem dX7_enough_1 : decode cX7_enough 1 = .ok (.ifCond .lt 8, 3) := by decide +kernel
theorem dX7_enough_4 : decode cX7_enough 4 = .ok (.iload_n 1, 1) := by decide +kernel
theorem dX7_enough_5 : decode cX7_enough 5 = .ok (.iconst 1, 1) := by decide +kernel
theorem dX7_enough_6 : decode cX7_enough 6 = .ok (.if_icmp .le 5, 3) := by decide +kernel
theorem dX7_enough_9 : decode cX7_enough 9 = .ok (.iconst (-1), 1) := by decide +kernel
theorem dX7_enough_10 : decode cX7_enough 10 = .ok (.ireturn, 1) := by decide +kernel
theorem dX7_enough_11 : decode cX7_enough 11 = .ok (.aload_n 0, 1) := by decide +kernel
theorem dX7_enough_12 : decode cX7_enough 12 = .ok (.invokevirtual 195, 3) := by decide +kernel
theorem dX7_enough_15 : decode cX7_enough 15 = .ok (.iconst 0, 1) := by decide +kernel
theorem dX7_enough_16 : decode cX7_enough 16 = .ok (.istore_n 2, 1) := by decide +kernel
theorem dX7_enough_17 : decode cX7_enough 17 = .ok (.bipush (-9), 2) := by decide +kernel
theorem dX7_enough_19 : decode cX7_enough 19 = .ok (.istore_n 3, 1) := by decide +kernel
theorem dX7_enough_20 : decode cX7_enough 20 = .ok (.iconst 0, 1) := by decide +kernel
theorem dX7_enough_21 : decode cX7_enough 21 = .ok (.istore 4, 2) := by decide +kernel
theorem dX7_enough_23 : decode cX7_enough 23 = .ok (.iload 4, 2) := by decide +kernel
theorem dX7_enough_25 : decode cX7_enough 25 = .ok (.aload_n 0, 1) := by decide +kernel
theorem dX7_enough_26 : decode cX7_enough 26 = .ok (.getfield 19, 3) := by decide +kernel
theorem dX7_enough_29 : decode cX7_enough 29 = .ok (.getfield 183, 3) := by decide +kernel
theorem dX7_enough_32 : decode cX7_enough 32 = .ok (.if_icmp .ge 98, 3) := by decide +kernel
theorem dX7_enough_35 : decode cX7_enough 35 = .ok (.aload_n 0, 1) := by decide +kernel
theorem dX7_enough_36 : decode cX7_enough 36 = .ok (.getfield 26, 3) := by decide +kernel
theorem dX7_enough_39 : decode cX7_enough 39 = .ok (.getfield 120, 3) := by decide +kernel
theorem dX7_enough_42 : decode cX7_enough 42 = .ok (.iload 4, 2) := by decide +kernel
theorem dX7_enough_44 : decode cX7_enough 44 = .ok (.iaload, 1) := by decide +kernel
theorem dX7_enough_45 : decode cX7_enough 45 = .ok (.iconst 4, 1) := by decide +kernel
theorem dX7_enough_46 : decode cX7_enough 46 = .ok (.if_icmp .eq 6, 3) := by decide +kernel
theorem dX7_enough_49 : decode cX7_enough 49 = .ok (.goto 75, 3) := by decide +kernel
theorem dX7_enough_52 : decode cX7_enough 52 = .ok (.iconst 0, 1) := by decide +kernel
theorem dX7_enough_53 : decode cX7_enough 53 = .ok (.istore 5, 2) := by decide +kernel
theorem dX7_enough_55 : decode cX7_enough 55 = .ok (.iload 5, 2) := by decide +kernel
theorem dX7_enough_57 : decode cX7_enough 57 = .ok (.iconst 4, 1) := by decide +kernel
theorem dX7_enough_58 : decode cX7_enough 58 = .ok (.if_icmp .ge 66, 3) := by decide +kernel
theorem dX7_enough_61 : decode cX7_enough 61 = .ok (.iconst 0, 1) := by decide +kernel
theorem dX7_enough_62 : decode cX7_enough 62 = .ok (.istore 6, 2) := by decide +kernel
theorem dX7_enough_64 : decode cX7_enough 64 = .ok (.iload 6, 2) := by decide +kernel
theorem dX7_enough_66 : decode cX7_enough 66 = .ok (.iload 5, 2) := by decide +kernel
theorem dX7_enough_68 : decode cX7_enough 68 = .ok (.invokestatic 150, 3) := by decide +kernel
theorem dX7_enough_71 : decode cX7_enough 71 = .ok (.if_icmp .ge 47, 3) := by decide +kernel
theorem dX7_enough_74 : decode cX7_enough 74 = .ok (.aload_n 0, 1) := by decide +kernel
theorem dX7_enough_75 : decode cX7_enough 75 = .ok (.iload 4, 2) := by decide +kernel
theorem dX7_enough_77 : decode cX7_enough 77 = .ok (.iload 5, 2) := by decide +kernel
theorem dX7_enough_79 : decode cX7_enough 79 = .ok (.iload 6, 2) := by decide +kernel
theorem dX7_enough_81 : decode cX7_enough 81 = .ok (.invokevirtual 198, 3) := by decide +kernel
theorem dX7_enough_84 : decode cX7_enough 84 = .ok (.ifCond .ne 6, 3) := by decide +kernel
theorem dX7_enough_87 : decode cX7_enough 87 = .ok (.goto 25, 3) := by decide +kernel
theorem dX7_enough_90 : decode cX7_enough 90 = .ok (.iload_n 2, 1) := by decide +kernel
theorem dX7_enough_91 : decode cX7_enough 91 = .ok (.ifCond .ne 18, 3) := by decide +kernel
theorem dX7_enough_94 : decode cX7_enough 94 = .ok (.bipush 100, 2) := by decide +kernel
theorem dX7_enough_96 : decode cX7_enough 96 = .ok (.iload 4, 2) := by decide +kernel
theorem dX7_enough_98 : decode cX7_enough 98 = .ok (.imul, 1) := by decide +kernel
theorem dX7_enough_99 : decode cX7_enough 99 = .ok (.bipush 10, 2) := by decide +kernel
theorem dX7_enough_101 : decode cX7_enough 101 = .ok (.iload 5, 2) := by decide +kernel
theorem dX7_enough_103 : decode cX7_enough 103 = .ok (.imul, 1) := by decide +kernel
theorem dX7_enough_104 : decode cX7_enough 104 = .ok (.iadd, 1) := by decide +kernel
theorem dX7_enough_105 : decode cX7_enough 105 = .ok (.iload 6, 2) := by decide +kernel
theorem dX7_enough_107 : decode cX7_enough 107 = .ok (.iadd, 1) := by decide +kernel
theorem dX7_enough_108 : decode cX7_enough 108 = .ok (.istore_n 3, 1) := by decide +kernel
theorem dX7_enough_109 : decode cX7_enough 109 = .ok (.iinc 2 1, 3) := by decide +kernel
theorem dX7_enough_112 : decode cX7_enough 112 = .ok (.iinc 6 1, 3) := by decide +kernel
theorem dX7_enough_115 : decode cX7_enough 115 = .ok (.goto (-51), 3) := by decide +kernel
theorem dX7_enough_118 : decode cX7_enough 118 = .ok (.iinc 5 1, 3) := by decide +kernel
theorem dX7_enough_121 : decode cX7_enough 121 = .ok (.goto (-66), 3) := by decide +kernel
theorem dX7_enough_124 : decode cX7_enough 124 = .ok (.iinc 4 1, 3) := by decide +kernel
theorem dX7_enough_127 : decode cX7_enough 127 = .ok (.goto (-104), 3) := by decide +kernel
theorem dX7_enough_130 : decode cX7_enough 130 = .ok (.iload_n 1, 1) := by decide +kernel
theorem dX7_enough_131 : decode cX7_enough 131 = .ok (.ifCond .ne 7, 3) := by decide +kernel
theorem dX7_enough_134 : decode cX7_enough 134 = .ok (.iload_n 2, 1) := by decide +kernel
theorem dX7_enough_135 : decode cX7_enough 135 = .ok (.goto 4, 3) := by decide +kernel
theorem dX7_enough_138 : decode cX7_enough 138 = .ok (.iload_n 3, 1) := by decide +kernel
theorem dX7_enough_139 : decode cX7_enough 139 = .ok (.ireturn, 1) := by decide +kernel
theorem dX7_flash_0 : decode cX7_flash 0 = .ok (.aload_n 0, 1) := by decide +kernel
theorem dX7_flash_1 : decode cX7_flash 1 = .ok (.iload_n 1, 1) := by decide +kernel
theorem dX7_flash_2 : decode cX7_flash 2 = .ok (.invokevirtual 129, 3) := by decide +kernel
theorem dX7_flash_5 : decode cX7_flash 5 = .ok (.ifCond .eq 17, 3) := by decide +kernel
theorem dX7_flash_8 : decode cX7_flash 8 = .ok (.iload_n 2, 1) := by decide +kernel
theorem dX7_flash_9 : decode cX7_flash 9 = .ok (.invokestatic 174, 3) := by decide +kernel
theorem dX7_flash_12 : decode cX7_flash 12 = .ok (.ifCond .eq 10, 3) := by decide +kernel
theorem dX7_flash_15 : decode cX7_flash 15 = .ok (.iload_n 3, 1) := by decide +kernel
theorem dX7_flash_16 : decode cX7_flash 16 = .ok (.invokestatic 174, 3) := by decide +kernel
theorem dX7_flash_19 : decode cX7_flash 19 = .ok (.ifCond .ne 5, 3) := by decide +kernel
theorem dX7_flash_22 : decode cX7_flash 22 = .ok (.iconst (-1), 1) := by decide +kernel
theorem dX7_flash_23 : decode cX7_flash 23 = .ok (.ireturn, 1) := by decide +kernel
theorem dX7_flash_24 : decode cX7_flash 24 = .ok (.aload_n 0, 1) := by decide +kernel
theorem dX7_flash_25 : decode cX7_flash 25 = .ok (.iload_n 1, 1) := by decide +kernel
theorem dX7_flash_26 : decode cX7_flash 26 = .ok (.invokevirtual 135, 3) := by decide +kernel
theorem dX7_flash_29 : decode cX7_flash 29 = .ok (.istore 4, 2) := by decide +kernel
theorem dX7_flash_31 : decode cX7_flash 31 = .ok (.iload 4, 2) := by decide +kernel
theorem dX7_flash_33 : decode cX7_flash 33 = .ok (.iload_n 2, 1) := by decide +kernel
theorem dX7_flash_34 : decode cX7_flash 34 = .ok (.invokestatic 201, 3) := by decide +kernel
theorem dX7_flash_37 : decode cX7_flash 37 = .ok (.ifCond .ne 12, 3) := by decide +kernel
theorem dX7_flash_40 : decode cX7_flash 40 = .ok (.iload 4, 2) := by decide +kernel
theorem dX7_flash_42 : decode cX7_flash 42 = .ok (.iload_n 3, 1) := by decide +kernel
theorem dX7_flash_43 : decode cX7_flash 43 = .ok (.invokestatic 201, 3) := by decide +kernel
theorem dX7_flash_46 : decode cX7_flash 46 = .ok (.ifCond .eq 5, 3) := by decide +kernel
theorem dX7_flash_49 : decode cX7_flash 49 = .ok (.iconst 0, 1) := by decide +kernel
theorem dX7_flash_50 : decode cX7_flash 50 = .ok (.ireturn, 1) := by decide +kernel
theorem dX7_flash_51 : decode cX7_flash 51 = .ok (.iload_n 2, 1) := by decide +kernel
theorem dX7_flash_52 : decode cX7_flash 52 = .ok (.iload_n 3, 1) := by decide +kernel
theorem dX7_flash_53 : decode cX7_flash 53 = .ok (.ixor, 1) := by decide +kernel
theorem dX7_flash_54 : decode cX7_flash 54 = .ok (.istore 5, 2) := by decide +kernel
theorem dX7_flash_56 : decode cX7_flash 56 = .ok (.iconst 0, 1) := by decide +kernel
theorem dX7_flash_57 : decode cX7_flash 57 = .ok (.istore 6, 2) := by decide +kernel
theorem dX7_flash_59 : decode cX7_flash 59 = .ok (.iload 6, 2) := by decide +kernel
theorem dX7_flash_61 : decode cX7_flash 61 = .ok (.bipush 16, 2) := by decide +kernel
theorem dX7_flash_63 : decode cX7_flash 63 = .ok (.if_icmp .ge 45, 3) := by decide +kernel
theorem dX7_flash_66 : decode cX7_flash 66 = .ok (.iload 6, 2) := by decide +kernel
theorem dX7_flash_68 : decode cX7_flash 68 = .ok (.iload_n 2, 1) := by decide +kernel
theorem dX7_flash_69 : decode cX7_flash 69 = .ok (.ixor, 1) := by decide +kernel
theorem dX7_flash_70 : decode cX7_flash 70 = .ok (.iload 5, 2) := by decide +kernel
theorem dX7_flash_72 : decode cX7_flash 72 = .ok (.iconst (-1), 1) := by decide +kernel
theorem dX7_flash_73 : decode cX7_flash 73 = .ok (.ixor, 1) := by decide +kernel
theorem dX7_flash_74 : decode cX7_flash 74 = .ok (.iand, 1) := by decide +kernel
theorem dX7_flash_75 : decode cX7_flash 75 = .ok (.ifCond .ne 7, 3) := by decide +kernel
theorem dX7_flash_78 : decode cX7_flash 78 = .ok (.iconst 1, 1) := by decide +kernel
theorem dX7_flash_79 : decode cX7_flash 79 = .ok (.goto 4, 3) := by decide +kernel
theorem dX7_flash_82 : decode cX7_flash 82 = .ok (.iconst 0, 1) := by decide +kernel
theorem dX7_flash_83 : decode cX7_flash 83 = .ok (.istore 7, 2) := by decide +kernel
theorem dX7_flash_85 : decode cX7_flash 85 = .ok (.iload 7, 2) := by decide +kernel
theorem dX7_flash_87 : decode cX7_flash 87 = .ok (.ifCond .eq 15, 3) := by decide +kernel
theorem dX7_flash_90 : decode cX7_flash 90 = .ok (.iload 4, 2) := by decide +kernel
theorem dX7_flash_92 : decode cX7_flash 92 = .ok (.iload 6, 2) := by decide +kernel
theorem dX7_flash_94 : decode cX7_flash 94 = .ok (.invokestatic 201, 3) := by decide +kernel
theorem dX7_flash_97 : decode cX7_flash 97 = .ok (.ifCond .eq 5, 3) := by decide +kernel
theorem dX7_flash_100 : decode cX7_flash 100 = .ok (.iconst 1, 1) := by decide +kernel
theorem dX7_flash_101 : decode cX7_flash 101 = .ok (.ireturn, 1) := by decide +kernel
theorem dX7_flash_102 : decode cX7_flash 102 = .ok (.iinc 6 1, 3) := by decide +kernel
theorem dX7_flash_105 : decode cX7_flash 105 = .ok (.goto (-46), 3) := by decide +kernel
theorem dX7_flash_108 : decode cX7_flash 108 = .ok (.iconst 0, 1) := by decide +kernel
theorem dX7_flash_109 : decode cX7_flash 109 = .ok (.ireturn, 1) := by decide +kernel
theorem dX7_odds_0 : decode cX7_odds 0 = .ok (.iload_n 1, 1) := by decide +kernel
theorem dX7_odds_1 : decode cX7_odds 1 = .ok (.ifCond .lt 35, 3) := by decide +kernel
theorem dX7_odds_4 : decode cX7_odds 4 = .ok (.iload_n 1, 1) := by decide +kernel
theorem dX7_odds_5 : decode cX7_odds 5 = .ok (.bipush 10, 2) := by decide +kernel
theorem dX7_odds_7 : decode cX7_odds 7 = .ok (.if_icmp .gt 29, 3) := by decide +kernel
theorem dX7_odds_10 : decode cX7_odds 10 = .ok (.aload_n 0, 1) := by decide +kernel
theorem dX7_odds_11 : decode cX7_odds 11 = .ok (.iload_n 2, 1) := by decide +kernel
theorem dX7_odds_12 : decode cX7_odds 12 = .ok (.invokevirtual 129, 3) := by decide +kernel
theorem dX7_odds_15 : decode cX7_odds 15 = .ok (.ifCond .eq 21, 3) := by decide +kernel
theorem dX7_odds_18 : decode cX7_odds 18 = .ok (.iload_n 3, 1) := by decide +kernel
theorem dX7_odds_19 : decode cX7_odds 19 = .ok (.invokestatic 174, 3) := by decide +kernel
theorem dX7_odds_22 : decode cX7_odds 22 = .ok (.ifCond .eq 14, 3) := by decide +kernel
theorem dX7_odds_25 : decode cX7_odds 25 = .ok (.iload 4, 2) := by decide +kernel
theorem dX7_odds_27 : decode cX7_odds 27 = .ok (.ifCond .lt 9, 3) := by decide +kernel
theorem dX7_odds_30 : decode cX7_odds 30 = .ok (.iload 4, 2) := by decide +kernel
theorem dX7_odds_32 : decode cX7_odds 32 = .ok (.iconst 1, 1) := by decide +kernel
theorem dX7_odds_33 : decode cX7_odds 33 = .ok (.if_icmp .le 5, 3) := by decide +kernel
theorem dX7_odds_36 : decode cX7_odds 36 = .ok (.iconst (-1), 1) := by decide +kernel
theorem dX7_odds_37 : decode cX7_odds 37 = .ok (.ireturn, 1) := by decide +kernel
theorem dX7_odds_38 : decode cX7_odds 38 = .ok (.aload_n 0, 1) := by decide +kernel
theorem dX7_odds_39 : decode cX7_odds 39 = .ok (.getfield 49, 3) := by decide +kernel
theorem dX7_odds_42 : decode cX7_odds 42 = .ok (.invokevirtual 157, 3) := by decide +kernel
theorem dX7_odds_45 : decode cX7_odds 45 = .ok (.bipush 10, 2) := by decide +kernel
theorem dX7_odds_47 : decode cX7_odds 47 = .ok (.aload_n 0, 1) := by decide +kernel
theorem dX7_odds_48 : decode cX7_odds 48 = .ok (.getfield 19, 3) := by decide +kernel
theorem dX7_odds_51 : decode cX7_odds 51 = .ok (.getfield 183, 3) := by decide +kernel
theorem dX7_odds_54 : decode cX7_odds 54 = .ok (.invokestatic 205, 3) := by decide +kernel
theorem dX7_odds_57 : decode cX7_odds 57 = .ok (.istore 5, 2) := by decide +kernel
theorem dX7_odds_59 : decode cX7_odds 59 = .ok (.iconst 0, 1) := by decide +kernel
theorem dX7_odds_60 : decode cX7_odds 60 = .ok (.istore 6, 2) := by decide +kernel
theorem dX7_odds_62 : decode cX7_odds 62 = .ok (.iconst 0, 1) := by decide +kernel
theorem dX7_odds_63 : decode cX7_odds 63 = .ok (.istore 7, 2) := by decide +kernel
theorem dX7_odds_65 : decode cX7_odds 65 = .ok (.iload 7, 2) := by decide +kernel
theorem dX7_odds_67 : decode cX7_odds 67 = .ok (.iconst 1, 1) := by decide +kernel
theorem dX7_odds_68 : decode cX7_odds 68 = .ok (.aload_n 0, 1) := by decide +kernel
theorem dX7_odds_69 : decode cX7_odds 69 = .ok (.getfield 19, 3) := by decide +kernel
theorem dX7_odds_72 : decode cX7_odds 72 = .ok (.getfield 183, 3) := by decide +kernel
theorem dX7_odds_75 : decode cX7_odds 75 = .ok (.ishl, 1) := by decide +kernel
theorem dX7_odds_76 : decode cX7_odds 76 = .ok (.if_icmp .ge 59, 3) := by decide +kernel
theorem dX7_odds_79 : decode cX7_odds 79 = .ok (.aload_n 0, 1) := by decide +kernel
theorem dX7_odds_80 : decode cX7_odds 80 = .ok (.getfield 49, 3) := by decide +kernel
theorem dX7_odds_83 : decode cX7_odds 83 = .ok (.iload 7, 2) := by decide +kernel
theorem dX7_odds_85 : decode cX7_odds 85 = .ok (.iload_n 2, 1) := by decide +kernel
theorem dX7_odds_86 : decode cX7_odds 86 = .ok (.iload_n 3, 1) := by decide +kernel
theorem dX7_odds_87 : decode cX7_odds 87 = .ok (.invokevirtual 191, 3) := by decide +kernel
theorem dX7_odds_90 : decode cX7_odds 90 = .ok (.ifCond .eq 39, 3) := by decide +kernel
theorem dX7_odds_93 : decode cX7_odds 93 = .ok (.iload 7, 2) := by decide +kernel
theorem dX7_odds_95 : decode cX7_odds 95 = .ok (.invokestatic 186, 3) := by decide +kernel
theorem dX7_odds_98 : decode cX7_odds 98 = .ok (.istore 8, 2) := by decide +kernel
theorem dX7_odds_100 : decode cX7_odds 100 = .ok (.iload 6, 2) := by decide +kernel
theorem dX7_odds_102 : decode cX7_odds 102 = .ok (.iload_n 1, 1) := by decide +kernel
theorem dX7_odds_103 : decode cX7_odds 103 = .ok (.iload 8, 2) := by decide +kernel
theorem dX7_odds_105 : decode cX7_odds 105 = .ok (.invokestatic 205, 3) := by decide +kernel
theorem dX7_odds_108 : decode cX7_odds 108 = .ok (.bipush 10, 2) := by decide +kernel
theorem dX7_odds_110 : decode cX7_odds 110 = .ok (.iload_n 1, 1) := by decide +kernel
theorem dX7_odds_111 : decode cX7_odds 111 = .ok (.isub, 1) := by decide +kernel
theorem dX7_odds_112 : decode cX7_odds 112 = .ok (.aload_n 0, 1) := by decide +kernel
theorem dX7_odds_113 : decode cX7_odds 113 = .ok (.getfield 19, 3) := by decide +kernel
theorem dX7_odds_116 : decode cX7_odds 116 = .ok (.getfield 183, 3) := by decide +kernel
theorem dX7_odds_119 : decode cX7_odds 119 = .ok (.iload 8, 2) := by decide +kernel
theorem dX7_odds_121 : decode cX7_odds 121 = .ok (.isub, 1) := by decide +kernel
theorem dX7_odds_122 : decode cX7_odds 122 = .ok (.invokestatic 205, 3) := by decide +kernel
theorem dX7_odds_125 : decode cX7_odds 125 = .ok (.imul, 1) := by decide +kernel
theorem dX7_odds_126 : decode cX7_odds 126 = .ok (.iadd, 1) := by decide +kernel
theorem dX7_odds_127 : decode cX7_odds 127 = .ok (.istore 6, 2) := by decide +kernel
theorem dX7_odds_129 : decode cX7_odds 129 = .ok (.iinc 7 1, 3) := by decide +kernel
theorem dX7_odds_132 : decode cX7_odds 132 = .ok (.goto (-67), 3) := by decide +kernel
theorem dX7_odds_135 : decode cX7_odds 135 = .ok (.iload 6, 2) := by decide +kernel
theorem dX7_odds_137 : decode cX7_odds 137 = .ok (.iload 5, 2) := by decide +kernel
theorem dX7_odds_139 : decode cX7_odds 139 = .ok (.invokestatic 209, 3) := by decide +kernel
theorem dX7_odds_142 : decode cX7_odds 142 = .ok (.istore 7, 2) := by decide +kernel
theorem dX7_odds_144 : decode cX7_odds 144 = .ok (.iload 4, 2) := by decide +kernel
theorem dX7_odds_146 : decode cX7_odds 146 = .ok (.ifCond .ne 8, 3) := by decide +kernel
theorem dX7_odds_149 : decode cX7_odds 149 = .ok (.iload 6, 2) := by decide +kernel
theorem dX7_odds_151 : decode cX7_odds 151 = .ok (.goto 5, 3) := by decide +kernel
theorem dX7_odds_154 : decode cX7_odds 154 = .ok (.iload 5, 2) := by decide +kernel
theorem dX7_odds_156 : decode cX7_odds 156 = .ok (.iload 7, 2) := by decide +kernel
theorem dX7_odds_158 : decode cX7_odds 158 = .ok (.idiv, 1) := by decide +kernel
theorem dX7_odds_159 : decode cX7_odds 159 = .ok (.ireturn, 1) := by decide +kernel
theorem dX7_sees_0 : decode cX7_sees 0 = .ok (.aload_n 0, 1) := by decide +kernel
theorem dX7_sees_1 : decode cX7_sees 1 = .ok (.iload_n 1, 1) := by decide +kernel
theorem dX7_sees_2 : decode cX7_sees 2 = .ok (.invokevirtual 129, 3) := by decide +kernel
theorem dX7_sees_5 : decode cX7_sees 5 = .ok (.ifCond .eq 19, 3) := by decide +kernel
theorem dX7_sees_8 : decode cX7_sees 8 = .ok (.iload_n 2, 1) := by decide +kernel
theorem dX7_sees_9 : decode cX7_sees 9 = .ok (.invokestatic 174, 3) := by decide +kernel
theorem dX7_sees_12 : decode cX7_sees 12 = .ok (.ifCond .eq 12, 3) := by decide +kernel
theorem dX7_sees_15 : decode cX7_sees 15 = .ok (.iload_n 3, 1) := by decide +kernel
theorem dX7_sees_16 : decode cX7_sees 16 = .ok (.ifCond .lt 8, 3) := by decide +kernel
theorem dX7_sees_19 : decode cX7_sees 19 = .ok (.iload_n 3, 1) := by decide +kernel
theorem dX7_sees_20 : decode cX7_sees 20 = .ok (.iconst 1, 1) := by decide +kernel
theorem dX7_sees_21 : decode cX7_sees 21 = .ok (.if_icmp .le 5, 3) := by decide +kernel
theorem dX7_sees_24 : decode cX7_sees 24 = .ok (.iconst (-1), 1) := by decide +kernel
theorem dX7_sees_25 : decode cX7_sees 25 = .ok (.ireturn, 1) := by decide +kernel
theorem dX7_sees_26 : decode cX7_sees 26 = .ok (.aload_n 0, 1) := by decide +kernel
theorem dX7_sees_27 : decode cX7_sees 27 = .ok (.getfield 40, 3) := by decide +kernel
theorem dX7_sees_30 : decode cX7_sees 30 = .ok (.iload_n 1, 1) := by decide +kernel
theorem dX7_sees_31 : decode cX7_sees 31 = .ok (.iload_n 2, 1) := by decide +kernel
theorem dX7_sees_32 : decode cX7_sees 32 = .ok (.iload_n 3, 1) := by decide +kernel
theorem dX7_sees_33 : decode cX7_sees 33 = .ok (.invokevirtual 212, 3) := by decide +kernel
theorem dX7_sees_36 : decode cX7_sees 36 = .ok (.ifCond .eq 13, 3) := by decide +kernel
theorem dX7_sees_39 : decode cX7_sees 39 = .ok (.aload_n 0, 1) := by decide +kernel
theorem dX7_sees_40 : decode cX7_sees 40 = .ok (.getfield 40, 3) := by decide +kernel
theorem dX7_sees_43 : decode cX7_sees 43 = .ok (.getfield 99, 3) := by decide +kernel
theorem dX7_sees_46 : decode cX7_sees 46 = .ok (.goto 5, 3) := by decide +kernel
theorem dX7_sees_49 : decode cX7_sees 49 = .ok (.bipush (-3), 2) := by decide +kernel
theorem dX7_sees_51 : decode cX7_sees 51 = .ok (.ireturn, 1) := by decide +kernel
theorem dX7_forget_0 : decode cX7_forget 0 = .ok (.aload_n 0, 1) := by decide +kernel
theorem dX7_forget_1 : decode cX7_forget 1 = .ok (.getfield 40, 3) := by decide +kernel
theorem dX7_forget_4 : decode cX7_forget 4 = .ok (.getfield 99, 3) := by decide +kernel
theorem dX7_forget_7 : decode cX7_forget 7 = .ok (.istore_n 1, 1) := by decide +kernel
theorem dX7_forget_8 : decode cX7_forget 8 = .ok (.aload_n 0, 1) := by decide +kernel
theorem dX7_forget_9 : decode cX7_forget 9 = .ok (.getfield 40, 3) := by decide +kernel
theorem dX7_forget_12 : decode cX7_forget 12 = .ok (.iconst 0, 1) := by decide +kernel
theorem dX7_forget_13 : decode cX7_forget 13 = .ok (.putfield 99, 3) := by decide +kernel
theorem dX7_forget_16 : decode cX7_forget 16 = .ok (.iload_n 1, 1) := by decide +kernel
theorem dX7_forget_17 : decode cX7_forget 17 = .ok (.ireturn, 1) := by decide +kernel
theorem dX7_unseen_0 : decode cX7_unseen 0 = .ok (.iload_n 1, 1) := by decide +kernel
theorem dX7_unseen_1 : decode cX7_unseen 1 = .ok (.iconst 1, 1) := by decide +kernel
theorem dX7_unseen_2 : decode cX7_unseen 2 = .ok (.if_icmp .eq 10, 3) := by decide +kernel
theorem dX7_unseen_5 : decode cX7_unseen 5 = .ok (.iload_n 1, 1) := by decide +kernel
theorem dX7_unseen_6 : decode cX7_unseen 6 = .ok (.iconst 2, 1) := by decide +kernel
theorem dX7_unseen_7 : decode cX7_unseen 7 = .ok (.if_icmp .eq 5, 3) := by decide +kernel
theorem dX7_unseen_10 : decode cX7_unseen 10 = .ok (.iconst (-1), 1) := by decide +kernel
theorem dX7_unseen_11 : decode cX7_unseen 11 = .ok (.ireturn, 1) := by decide +kernel
theorem dX7_unseen_12 : decode cX7_unseen 12 = .ok (.aload_n 0, 1) := by decide +kernel
theorem dX7_unseen_13 : decode cX7_unseen 13 = .ok (.getfield 49, 3) := by decide +kernel
theorem dX7_unseen_16 : decode cX7_unseen 16 = .ok (.invokevirtual 157, 3) := by decide +kernel
theorem dX7_unseen_19 : decode cX7_unseen 19 = .ok (.iconst 0, 1) := by decide +kernel
theorem dX7_unseen_20 : decode cX7_unseen 20 = .ok (.istore_n 2, 1) := by decide +kernel
theorem dX7_unseen_21 : decode cX7_unseen 21 = .ok (.iconst 0, 1) := by decide +kernel
theorem dX7_unseen_22 : decode cX7_unseen 22 = .ok (.istore_n 3, 1) := by decide +kernel
theorem dX7_unseen_23 : decode cX7_unseen 23 = .ok (.iload_n 3, 1) := by decide +kernel
theorem dX7_unseen_24 : decode cX7_unseen 24 = .ok (.aload_n 0, 1) := by decide +kernel
theorem dX7_unseen_25 : decode cX7_unseen 25 = .ok (.getfield 19, 3) := by decide +kernel
theorem dX7_unseen_28 : decode cX7_unseen 28 = .ok (.getfield 183, 3) := by decide +kernel
theorem dX7_unseen_31 : decode cX7_unseen 31 = .ok (.if_icmp .ge 99, 3) := by decide +kernel
theorem dX7_unseen_34 : decode cX7_unseen 34 = .ok (.aload_n 0, 1) := by decide +kernel
theorem dX7_unseen_35 : decode cX7_unseen 35 = .ok (.getfield 49, 3) := by decide +kernel
theorem dX7_unseen_38 : decode cX7_unseen 38 = .ok (.iload_n 3, 1) := by decide +kernel
theorem dX7_unseen_39 : decode cX7_unseen 39 = .ok (.aload_n 0, 1) := by decide +kernel
theorem dX7_unseen_40 : decode cX7_unseen 40 = .ok (.getfield 26, 3) := by decide +kernel
theorem dX7_unseen_43 : decode cX7_unseen 43 = .ok (.getfield 120, 3) := by decide +kernel
theorem dX7_unseen_46 : decode cX7_unseen 46 = .ok (.iload_n 3, 1) := by decide +kernel
theorem dX7_unseen_47 : decode cX7_unseen 47 = .ok (.iaload, 1) := by decide +kernel
theorem dX7_unseen_48 : decode cX7_unseen 48 = .ok (.aload_n 0, 1) := by decide +kernel
theorem dX7_unseen_49 : decode cX7_unseen 49 = .ok (.getfield 26, 3) := by decide +kernel
theorem dX7_unseen_52 : decode cX7_unseen 52 = .ok (.getfield 123, 3) := by decide +kernel
theorem dX7_unseen_55 : decode cX7_unseen 55 = .ok (.iload_n 3, 1) := by decide +kernel
theorem dX7_unseen_56 : decode cX7_unseen 56 = .ok (.iaload, 1) := by decide +kernel
theorem dX7_unseen_57 : decode cX7_unseen 57 = .ok (.iload_n 1, 1) := by decide +kernel
theorem dX7_unseen_58 : decode cX7_unseen 58 = .ok (.invokevirtual 214, 3) := by decide +kernel
theorem dX7_unseen_61 : decode cX7_unseen 61 = .ok (.aload_n 0, 1) := by decide +kernel
theorem dX7_unseen_62 : decode cX7_unseen 62 = .ok (.getfield 49, 3) := by decide +kernel
theorem dX7_unseen_65 : decode cX7_unseen 65 = .ok (.iconst 0, 1) := by decide +kernel
theorem dX7_unseen_66 : decode cX7_unseen 66 = .ok (.invokevirtual 217, 3) := by decide +kernel
theorem dX7_unseen_69 : decode cX7_unseen 69 = .ok (.aload_n 0, 1) := by decide +kernel
theorem dX7_unseen_70 : decode cX7_unseen 70 = .ok (.getfield 40, 3) := by decide +kernel
theorem dX7_unseen_73 : decode cX7_unseen 73 = .ok (.aload_n 0, 1) := by decide +kernel
theorem dX7_unseen_74 : decode cX7_unseen 74 = .ok (.getfield 49, 3) := by decide +kernel
theorem dX7_unseen_77 : decode cX7_unseen 77 = .ok (.invokevirtual 221, 3) := by decide +kernel
theorem dX7_unseen_80 : decode cX7_unseen 80 = .ok (.ifCond .eq 9, 3) := by decide +kernel
theorem dX7_unseen_83 : decode cX7_unseen 83 = .ok (.iload_n 2, 1) := by decide +kernel
theorem dX7_unseen_84 : decode cX7_unseen 84 = .ok (.iconst 1, 1) := by decide +kernel
theorem dX7_unseen_85 : decode cX7_unseen 85 = .ok (.iload_n 3, 1) := by decide +kernel
theorem dX7_unseen_86 : decode cX7_unseen 86 = .ok (.ishl, 1) := by decide +kernel
theorem dX7_unseen_87 : decode cX7_unseen 87 = .ok (.ior, 1) := by decide +kernel
theorem dX7_unseen_88 : decode cX7_unseen 88 = .ok (.istore_n 2, 1) := by decide +kernel
theorem dX7_unseen_89 : decode cX7_unseen 89 = .ok (.aload_n 0, 1) := by decide +kernel
theorem dX7_unseen_90 : decode cX7_unseen 90 = .ok (.getfield 49, 3) := by decide +kernel
theorem dX7_unseen_93 : decode cX7_unseen 93 = .ok (.iload_n 3, 1) := by decide +kernel
theorem dX7_unseen_94 : decode cX7_unseen 94 = .ok (.aload_n 0, 1) := by decide +kernel
theorem dX7_unseen_95 : decode cX7_unseen 95 = .ok (.getfield 26, 3) := by decide +kernel
theorem dX7_unseen_98 : decode cX7_unseen 98 = .ok (.getfield 120, 3) := by decide +kernel
theorem dX7_unseen_101 : decode cX7_unseen 101 = .ok (.iload_n 3, 1) := by decide +kernel
theorem dX7_unseen_102 : decode cX7_unseen 102 = .ok (.iaload, 1) := by decide +kernel
theorem dX7_unseen_103 : decode cX7_unseen 103 = .ok (.aload_n 0, 1) := by decide +kernel
theorem dX7_unseen_104 : decode cX7_unseen 104 = .ok (.getfield 26, 3) := by decide +kernel
theorem dX7_unseen_107 : decode cX7_unseen 107 = .ok (.getfield 123, 3) := by decide +kernel
theorem dX7_unseen_110 : decode cX7_unseen 110 = .ok (.iload_n 3, 1) := by decide +kernel
theorem dX7_unseen_111 : decode cX7_unseen 111 = .ok (.iaload, 1) := by decide +kernel
theorem dX7_unseen_112 : decode cX7_unseen 112 = .ok (.aload_n 0, 1) := by decide +kernel
theorem dX7_unseen_113 : decode cX7_unseen 113 = .ok (.getfield 26, 3) := by decide +kernel
theorem dX7_unseen_116 : decode cX7_unseen 116 = .ok (.getfield 126, 3) := by decide +kernel
theorem dX7_unseen_119 : decode cX7_unseen 119 = .ok (.iload_n 3, 1) := by decide +kernel
theorem dX7_unseen_120 : decode cX7_unseen 120 = .ok (.iaload, 1) := by decide +kernel
theorem dX7_unseen_121 : decode cX7_unseen 121 = .ok (.invokevirtual 214, 3) := by decide +kernel
theorem dX7_unseen_124 : decode cX7_unseen 124 = .ok (.iinc 3 1, 3) := by decide +kernel
theorem dX7_unseen_127 : decode cX7_unseen 127 = .ok (.goto (-104), 3) := by decide +kernel
theorem dX7_unseen_130 : decode cX7_unseen 130 = .ok (.iload_n 2, 1) := by decide +kernel
theorem dX7_unseen_131 : decode cX7_unseen 131 = .ok (.ireturn, 1) := by decide +kernel
theorem dX7_keep_0 : decode cX7_keep 0 = .ok (.iload_n 1, 1) := by decide +kernel
theorem dX7_keep_1 : decode cX7_keep 1 = .ok (.invokestatic 225, 3) := by decide +kernel
theorem dX7_keep_4 : decode cX7_keep 4 = .ok (.ifCond .ne 5, 3) := by decide +kernel
theorem dX7_keep_7 : decode cX7_keep 7 = .ok (.iconst (-1), 1) := by decide +kernel
theorem dX7_keep_8 : decode cX7_keep 8 = .ok (.ireturn, 1) := by decide +kernel
theorem dX7_keep_9 : decode cX7_keep 9 = .ok (.aload_n 0, 1) := by decide +kernel
theorem dX7_keep_10 : decode cX7_keep 10 = .ok (.getfield 62, 3) := by decide +kernel
theorem dX7_keep_13 : decode cX7_keep 13 = .ok (.iload_n 1, 1) := by decide +kernel
theorem dX7_keep_14 : decode cX7_keep 14 = .ok (.aaload, 1) := by decide +kernel
theorem dX7_keep_15 : decode cX7_keep 15 = .ok (.aload_n 0, 1) := by decide +kernel
theorem dX7_keep_16 : decode cX7_keep 16 = .ok (.getfield 26, 3) := by decide +kernel
theorem dX7_keep_19 : decode cX7_keep 19 = .ok (.invokevirtual 228, 3) := by decide +kernel
theorem dX7_keep_22 : decode cX7_keep 22 = .ok (.aload_n 0, 1) := by decide +kernel
theorem dX7_keep_23 : decode cX7_keep 23 = .ok (.getfield 66, 3) := by decide +kernel
theorem dX7_keep_26 : decode cX7_keep 26 = .ok (.iload_n 1, 1) := by decide +kernel
theorem dX7_keep_27 : decode cX7_keep 27 = .ok (.iconst 1, 1) := by decide +kernel
theorem dX7_keep_28 : decode cX7_keep 28 = .ok (.bastore, 1) := by decide +kernel
theorem dX7_keep_29 : decode cX7_keep 29 = .ok (.aload_n 0, 1) := by decide +kernel
theorem dX7_keep_30 : decode cX7_keep 30 = .ok (.getfield 19, 3) := by decide +kernel
theorem dX7_keep_33 : decode cX7_keep 33 = .ok (.getfield 183, 3) := by decide +kernel
theorem dX7_keep_36 : decode cX7_keep 36 = .ok (.ireturn, 1) := by decide +kernel
theorem dX7_back_0 : decode cX7_back 0 = .ok (.iload_n 1, 1) := by decide +kernel
theorem dX7_back_1 : decode cX7_back 1 = .ok (.invokestatic 225, 3) := by decide +kernel
theorem dX7_back_4 : decode cX7_back 4 = .ok (.ifCond .ne 5, 3) := by decide +kernel
theorem dX7_back_7 : decode cX7_back 7 = .ok (.iconst (-1), 1) := by decide +kernel
theorem dX7_back_8 : decode cX7_back 8 = .ok (.ireturn, 1) := by decide +kernel
theorem dX7_back_9 : decode cX7_back 9 = .ok (.aload_n 0, 1) := by decide +kernel
theorem dX7_back_10 : decode cX7_back 10 = .ok (.getfield 66, 3) := by decide +kernel
theorem dX7_back_13 : decode cX7_back 13 = .ok (.iload_n 1, 1) := by decide +kernel
theorem dX7_back_14 : decode cX7_back 14 = .ok (.baload, 1) := by decide +kernel
theorem dX7_back_15 : decode cX7_back 15 = .ok (.ifCond .ne 6, 3) := by decide +kernel
theorem dX7_back_18 : decode cX7_back 18 = .ok (.bipush (-2), 2) := by decide +kernel
theorem dX7_back_20 : decode cX7_back 20 = .ok (.ireturn, 1) := by decide +kernel
theorem dX7_back_21 : decode cX7_back 21 = .ok (.aload_n 0, 1) := by decide +kernel
theorem dX7_back_22 : decode cX7_back 22 = .ok (.getfield 26, 3) := by decide +kernel
theorem dX7_back_25 : decode cX7_back 25 = .ok (.aload_n 0, 1) := by decide +kernel
theorem dX7_back_26 : decode cX7_back 26 = .ok (.getfield 62, 3) := by decide +kernel
theorem dX7_back_29 : decode cX7_back 29 = .ok (.iload_n 1, 1) := by decide +kernel
theorem dX7_back_30 : decode cX7_back 30 = .ok (.aaload, 1) := by decide +kernel
theorem dX7_back_31 : decode cX7_back 31 = .ok (.invokevirtual 228, 3) := by decide +kernel
theorem dX7_back_34 : decode cX7_back 34 = .ok (.aload_n 0, 1) := by decide +kernel
theorem dX7_back_35 : decode cX7_back 35 = .ok (.getfield 33, 3) := by decide +kernel
theorem dX7_back_38 : decode cX7_back 38 = .ok (.iconst 0, 1) := by decide +kernel
theorem dX7_back_39 : decode cX7_back 39 = .ok (.putfield 96, 3) := by decide +kernel
theorem dX7_back_42 : decode cX7_back 42 = .ok (.aload_n 0, 1) := by decide +kernel
theorem dX7_back_43 : decode cX7_back 43 = .ok (.getfield 19, 3) := by decide +kernel
theorem dX7_back_46 : decode cX7_back 46 = .ok (.getfield 183, 3) := by decide +kernel
theorem dX7_back_49 : decode cX7_back 49 = .ok (.ireturn, 1) := by decide +kernel
theorem dX7_count_0 : decode cX7_count 0 = .ok (.iload_n 1, 1) := by decide +kernel
theorem dX7_count_1 : decode cX7_count 1 = .ok (.tableswitch 105 0 7 #[47, 55, 63, 71, 76, 81, 89, 97], 47) := by decide +kernel
theorem dX7_count_48 : decode cX7_count 48 = .ok (.aload_n 0, 1) := by decide +kernel
theorem dX7_count_49 : decode cX7_count 49 = .ok (.getfield 19, 3) := by decide +kernel
theorem dX7_count_52 : decode cX7_count 52 = .ok (.getfield 230, 3) := by decide +kernel
theorem dX7_count_55 : decode cX7_count 55 = .ok (.ireturn, 1) := by decide +kernel
theorem dX7_count_56 : decode cX7_count 56 = .ok (.aload_n 0, 1) := by decide +kernel
theorem dX7_count_57 : decode cX7_count 57 = .ok (.getfield 19, 3) := by decide +kernel
theorem dX7_count_60 : decode cX7_count 60 = .ok (.getfield 183, 3) := by decide +kernel
theorem dX7_count_63 : decode cX7_count 63 = .ok (.ireturn, 1) := by decide +kernel
theorem dX7_count_64 : decode cX7_count 64 = .ok (.aload_n 0, 1) := by decide +kernel
theorem dX7_count_65 : decode cX7_count 65 = .ok (.getfield 19, 3) := by decide +kernel
theorem dX7_count_68 : decode cX7_count 68 = .ok (.getfield 233, 3) := by decide +kernel
theorem dX7_count_71 : decode cX7_count 71 = .ok (.ireturn, 1) := by decide +kernel
theorem dX7_count_72 : decode cX7_count 72 = .ok (.aload_n 0, 1) := by decide +kernel
theorem dX7_count_73 : decode cX7_count 73 = .ok (.invokevirtual 236, 3) := by decide +kernel
theorem dX7_count_76 : decode cX7_count 76 = .ok (.ireturn, 1) := by decide +kernel
theorem dX7_count_77 : decode cX7_count 77 = .ok (.aload_n 0, 1) := by decide +kernel
theorem dX7_count_78 : decode cX7_count 78 = .ok (.invokevirtual 239, 3) := by decide +kernel
theorem dX7_count_81 : decode cX7_count 81 = .ok (.ireturn, 1) := by decide +kernel
theorem dX7_count_82 : decode cX7_count 82 = .ok (.aload_n 0, 1) := by decide +kernel
theorem dX7_count_83 : decode cX7_count 83 = .ok (.getfield 40, 3) := by decide +kernel
theorem dX7_count_86 : decode cX7_count 86 = .ok (.getfield 99, 3) := by decide +kernel
theorem dX7_count_89 : decode cX7_count 89 = .ok (.ireturn, 1) := by decide +kernel
theorem dX7_count_90 : decode cX7_count 90 = .ok (.aload_n 0, 1) := by decide +kernel
theorem dX7_count_91 : decode cX7_count 91 = .ok (.getfield 10, 3) := by decide +kernel
theorem dX7_count_94 : decode cX7_count 94 = .ok (.getfield 78, 3) := by decide +kernel
theorem dX7_count_97 : decode cX7_count 97 = .ok (.ireturn, 1) := by decide +kernel
theorem dX7_count_98 : decode cX7_count 98 = .ok (.aload_n 0, 1) := by decide +kernel
theorem dX7_count_99 : decode cX7_count 99 = .ok (.getfield 33, 3) := by decide +kernel
theorem dX7_count_102 : decode cX7_count 102 = .ok (.getfield 96, 3) := by decide +kernel
theorem dX7_count_105 : decode cX7_count 105 = .ok (.ireturn, 1) := by decide +kernel
theorem dX7_count_106 : decode cX7_count 106 = .ok (.iconst (-1), 1) := by decide +kernel
theorem dX7_count_107 : decode cX7_count 107 = .ok (.ireturn, 1) := by decide +kernel
theorem dX7_isContact_0 : decode cX7_isContact 0 = .ok (.iload_n 1, 1) := by decide +kernel
theorem dX7_isContact_1 : decode cX7_isContact 1 = .ok (.ifCond .lt 18, 3) := by decide +kernel
theorem dX7_isContact_4 : decode cX7_isContact 4 = .ok (.iload_n 1, 1) := by decide +kernel
theorem dX7_isContact_5 : decode cX7_isContact 5 = .ok (.aload_n 0, 1) := by decide +kernel
theorem dX7_isContact_6 : decode cX7_isContact 6 = .ok (.getfield 19, 3) := by decide +kernel
theorem dX7_isContact_9 : decode cX7_isContact 9 = .ok (.getfield 183, 3) := by decide +kernel
theorem dX7_isContact_12 : decode cX7_isContact 12 = .ok (.if_icmp .ge 7, 3) := by decide +kernel
theorem dX7_isContact_15 : decode cX7_isContact 15 = .ok (.iconst 1, 1) := by decide +kernel
theorem dX7_isContact_16 : decode cX7_isContact 16 = .ok (.goto 4, 3) := by decide +kernel
theorem dX7_isContact_19 : decode cX7_isContact 19 = .ok (.iconst 0, 1) := by decide +kernel
theorem dX7_isContact_20 : decode cX7_isContact 20 = .ok (.ireturn, 1) := by decide +kernel
theorem dX7_isLoad_0 : decode cX7_isLoad 0 = .ok (.iload_n 1, 1) := by decide +kernel
theorem dX7_isLoad_1 : decode cX7_isLoad 1 = .ok (.ifCond .lt 18, 3) := by decide +kernel
theorem dX7_isLoad_4 : decode cX7_isLoad 4 = .ok (.iload_n 1, 1) := by decide +kernel
theorem dX7_isLoad_5 : decode cX7_isLoad 5 = .ok (.aload_n 0, 1) := by decide +kernel
theorem dX7_isLoad_6 : decode cX7_isLoad 6 = .ok (.getfield 19, 3) := by decide +kernel
theorem dX7_isLoad_9 : decode cX7_isLoad 9 = .ok (.getfield 233, 3) := by decide +kernel
theorem dX7_isLoad_12 : decode cX7_isLoad 12 = .ok (.if_icmp .ge 7, 3) := by decide +kernel
theorem dX7_isLoad_15 : decode cX7_isLoad 15 = .ok (.iconst 1, 1) := by decide +kernel
theorem dX7_isLoad_16 : decode cX7_isLoad 16 = .ok (.goto 4, 3) := by decide +kernel
theorem dX7_isLoad_19 : decode cX7_isLoad 19 = .ok (.iconst 0, 1) := by decide +kernel
theorem dX7_isLoad_20 : decode cX7_isLoad 20 = .ok (.ireturn, 1) := by decide +kernel
theorem dX7_isState_0 : decode cX7_isState 0 = .ok (.iload_n 0, 1) := by decide +kernel
theorem dX7_isState_1 : decode cX7_isState 1 = .ok (.ifCond .lt 13, 3) := by decide +kernel
theorem dX7_isState_4 : decode cX7_isState 4 = .ok (.iload_n 0, 1) := by decide +kernel
theorem dX7_isState_5 : decode cX7_isState 5 = .ok (.bipush 16, 2) := by decide +kernel
theorem dX7_isState_7 : decode cX7_isState 7 = .ok (.if_icmp .ge 7, 3) := by decide +kernel
theorem dX7_isState_10 : decode cX7_isState 10 = .ok (.iconst 1, 1) := by decide +kernel
theorem dX7_isState_11 : decode cX7_isState 11 = .ok (.goto 4, 3) := by decide +kernel
theorem dX7_isState_14 : decode cX7_isState 14 = .ok (.iconst 0, 1) := by decide +kernel
theorem dX7_isState_15 : decode cX7_isState 15 = .ok (.ireturn, 1) := by decide +kernel
theorem dX7_isImage_0 : decode cX7_isImage 0 = .ok (.iload_n 0, 1) := by decide +kernel
theorem dX7_isImage_1 : decode cX7_isImage 1 = .ok (.ifCond .lt 12, 3) := by decide +kernel
theorem dX7_isImage_4 : decode cX7_isImage 4 = .ok (.iload_n 0, 1) := by decide +kernel
theorem dX7_isImage_5 : decode cX7_isImage 5 = .ok (.iconst 2, 1) := by decide +kernel
theorem dX7_isImage_6 : decode cX7_isImage 6 = .ok (.if_icmp .ge 7, 3) := by decide +kernel
theorem dX7_isImage_9 : decode cX7_isImage 9 = .ok (.iconst 1, 1) := by decide +kernel
theorem dX7_isImage_10 : decode cX7_isImage 10 = .ok (.goto 4, 3) := by decide +kernel
theorem dX7_isImage_13 : decode cX7_isImage 13 = .ok (.iconst 0, 1) := by decide +kernel
theorem dX7_isImage_14 : decode cX7_isImage 14 = .ok (.ireturn, 1) := by decide +kernel
theorem dX7_hasBit_0 : decode cX7_hasBit 0 = .ok (.iload_n 0, 1) := by decide +kernel
theorem dX7_hasBit_1 : decode cX7_hasBit 1 = .ok (.iload_n 1, 1) := by decide +kernel
theorem dX7_hasBit_2 : decode cX7_hasBit 2 = .ok (.ishr, 1) := by decide +kernel
theorem dX7_hasBit_3 : decode cX7_hasBit 3 = .ok (.iconst 1, 1) := by decide +kernel
theorem dX7_hasBit_4 : decode cX7_hasBit 4 = .ok (.iand, 1) := by decide +kernel
theorem dX7_hasBit_5 : decode cX7_hasBit 5 = .ok (.ifCond .eq 7, 3) := by decide +kernel
theorem dX7_hasBit_8 : decode cX7_hasBit 8 = .ok (.iconst 1, 1) := by decide +kernel
theorem dX7_hasBit_9 : decode cX7_hasBit 9 = .ok (.goto 4, 3) := by decide +kernel
theorem dX7_hasBit_12 : decode cX7_hasBit 12 = .ok (.iconst 0, 1) := by decide +kernel
theorem dX7_hasBit_13 : decode cX7_hasBit 13 = .ok (.ireturn, 1) := by decide +kernel
theorem dX7_choicesOfSwitch_0 : decode cX7_choicesOfSwitch 0 = .ok (.iload_n 0, 1) := by decide +kernel
theorem dX7_choicesOfSwitch_1 : decode cX7_choicesOfSwitch 1 = .ok (.iconst 1, 1) := by decide +kernel
theorem dX7_choicesOfSwitch_2 : decode cX7_choicesOfSwitch 2 = .ok (.if_icmp .gt 7, 3) := by decide +kernel
theorem dX7_choicesOfSwitch_5 : decode cX7_choicesOfSwitch 5 = .ok (.iconst 4, 1) := by decide +kernel
theorem dX7_choicesOfSwitch_6 : decode cX7_choicesOfSwitch 6 = .ok (.goto 4, 3) := by decide +kernel
theorem dX7_choicesOfSwitch_9 : decode cX7_choicesOfSwitch 9 = .ok (.iconst 1, 1) := by decide +kernel
theorem dX7_choicesOfSwitch_10 : decode cX7_choicesOfSwitch 10 = .ok (.ireturn, 1) := by decide +kernel
theorem dX7_wishWhatIsFed_0 : decode cX7_wishWhatIsFed 0 = .ok (.aload_n 0, 1) := by decide +kernel
theorem dX7_wishWhatIsFed_1 : decode cX7_wishWhatIsFed 1 = .ok (.getfield 49, 3) := by decide +kernel
theorem dX7_wishWhatIsFed_4 : decode cX7_wishWhatIsFed 4 = .ok (.invokevirtual 157, 3) := by decide +kernel
theorem dX7_wishWhatIsFed_7 : decode cX7_wishWhatIsFed 7 = .ok (.aload_n 0, 1) := by decide +kernel
theorem dX7_wishWhatIsFed_8 : decode cX7_wishWhatIsFed 8 = .ok (.getfield 49, 3) := by decide +kernel
theorem dX7_wishWhatIsFed_11 : decode cX7_wishWhatIsFed 11 = .ok (.iconst 0, 1) := by decide +kernel
theorem dX7_wishWhatIsFed_12 : decode cX7_wishWhatIsFed 12 = .ok (.invokevirtual 217, 3) := by decide +kernel
theorem dX7_wishWhatIsFed_15 : decode cX7_wishWhatIsFed 15 = .ok (.iconst 0, 1) := by decide +kernel
theorem dX7_wishWhatIsFed_16 : decode cX7_wishWhatIsFed 16 = .ok (.istore_n 1, 1) := by decide +kernel
theorem dX7_wishWhatIsFed_17 : decode cX7_wishWhatIsFed 17 = .ok (.iload_n 1, 1) := by decide +kernel
theorem dX7_wishWhatIsFed_18 : decode cX7_wishWhatIsFed 18 = .ok (.aload_n 0, 1) := by decide +kernel
theorem dX7_wishWhatIsFed_19 : decode cX7_wishWhatIsFed 19 = .ok (.getfield 19, 3) := by decide +kernel
theorem dX7_wishWhatIsFed_22 : decode cX7_wishWhatIsFed 22 = .ok (.getfield 233, 3) := by decide +kernel
theorem dX7_wishWhatIsFed_25 : decode cX7_wishWhatIsFed 25 = .ok (.if_icmp .ge 26, 3) := by decide +kernel
theorem dX7_wishWhatIsFed_28 : decode cX7_wishWhatIsFed 28 = .ok (.aload_n 0, 1) := by decide +kernel
theorem dX7_wishWhatIsFed_29 : decode cX7_wishWhatIsFed 29 = .ok (.getfield 26, 3) := by decide +kernel
theorem dX7_wishWhatIsFed_32 : decode cX7_wishWhatIsFed 32 = .ok (.getfield 139, 3) := by decide +kernel
theorem dX7_wishWhatIsFed_35 : decode cX7_wishWhatIsFed 35 = .ok (.iload_n 1, 1) := by decide +kernel
theorem dX7_wishWhatIsFed_36 : decode cX7_wishWhatIsFed 36 = .ok (.aload_n 0, 1) := by decide +kernel
theorem dX7_wishWhatIsFed_37 : decode cX7_wishWhatIsFed 37 = .ok (.getfield 49, 3) := by decide +kernel
theorem dX7_wishWhatIsFed_40 : decode cX7_wishWhatIsFed 40 = .ok (.iload_n 1, 1) := by decide +kernel
theorem dX7_wishWhatIsFed_41 : decode cX7_wishWhatIsFed 41 = .ok (.invokevirtual 242, 3) := by decide +kernel
theorem dX7_wishWhatIsFed_44 : decode cX7_wishWhatIsFed 44 = .ok (.iastore, 1) := by decide +kernel
theorem dX7_wishWhatIsFed_45 : decode cX7_wishWhatIsFed 45 = .ok (.iinc 1 1, 3) := by decide +kernel
theorem dX7_wishWhatIsFed_48 : decode cX7_wishWhatIsFed 48 = .ok (.goto (-31), 3) := by decide +kernel
theorem dX7_wishWhatIsFed_51 : decode cX7_wishWhatIsFed 51 = .ok (.return_, 1) := by decide +kernel
theorem dX7_fedNow_0 : decode cX7_fedNow 0 = .ok (.aload_n 0, 1) := by decide +kernel
theorem dX7_fedNow_1 : decode cX7_fedNow 1 = .ok (.getfield 49, 3) := by decide +kernel
theorem dX7_fedNow_4 : decode cX7_fedNow 4 = .ok (.invokevirtual 157, 3) := by decide +kernel
theorem dX7_fedNow_7 : decode cX7_fedNow 7 = .ok (.aload_n 0, 1) := by decide +kernel
theorem dX7_fedNow_8 : decode cX7_fedNow 8 = .ok (.getfield 49, 3) := by decide +kernel
theorem dX7_fedNow_11 : decode cX7_fedNow 11 = .ok (.iconst 0, 1) := by decide +kernel
theorem dX7_fedNow_12 : decode cX7_fedNow 12 = .ok (.invokevirtual 217, 3) := by decide +kernel
theorem dX7_fedNow_15 : decode cX7_fedNow 15 = .ok (.aload_n 0, 1) := by decide +kernel
theorem dX7_fedNow_16 : decode cX7_fedNow 16 = .ok (.getfield 49, 3) := by decide +kernel
theorem dX7_fedNow_19 : decode cX7_fedNow 19 = .ok (.iload_n 1, 1) := by decide +kernel
theorem dX7_fedNow_20 : decode cX7_fedNow 20 = .ok (.invokevirtual 242, 3) := by decide +kernel
theorem dX7_fedNow_23 : decode cX7_fedNow 23 = .ok (.ireturn, 1) := by decide +kernel
theorem dX7_howManyPaths_0 : decode cX7_howManyPaths 0 = .ok (.aload_n 0, 1) := by decide +kernel
theorem dX7_howManyPaths_1 : decode cX7_howManyPaths 1 = .ok (.getfield 49, 3) := by decide +kernel
theorem dX7_howManyPaths_4 : decode cX7_howManyPaths 4 = .ok (.invokevirtual 157, 3) := by decide +kernel
theorem dX7_howManyPaths_7 : decode cX7_howManyPaths 7 = .ok (.aload_n 0, 1) := by decide +kernel
theorem dX7_howManyPaths_8 : decode cX7_howManyPaths 8 = .ok (.getfield 58, 3) := by decide +kernel
theorem dX7_howManyPaths_11 : decode cX7_howManyPaths 11 = .ok (.iload_n 1, 1) := by decide +kernel
theorem dX7_howManyPaths_12 : decode cX7_howManyPaths 12 = .ok (.bipush (-9), 2) := by decide +kernel
theorem dX7_howManyPaths_14 : decode cX7_howManyPaths 14 = .ok (.bipush (-9), 2) := by decide +kernel
theorem dX7_howManyPaths_16 : decode cX7_howManyPaths 16 = .ok (.invokevirtual 160, 3) := by decide +kernel
theorem dX7_howManyPaths_19 : decode cX7_howManyPaths 19 = .ok (.aload_n 0, 1) := by decide +kernel
theorem dX7_howManyPaths_20 : decode cX7_howManyPaths 20 = .ok (.getfield 58, 3) := by decide +kernel
theorem dX7_howManyPaths_23 : decode cX7_howManyPaths 23 = .ok (.getfield 164, 3) := by decide +kernel
theorem dX7_howManyPaths_26 : decode cX7_howManyPaths 26 = .ok (.ireturn, 1) := by decide +kernel
theorem dX7_loadsThatSneak_0 : decode cX7_loadsThatSneak 0 = .ok (.iconst 0, 1) := by decide +kernel
theorem dX7_loadsThatSneak_1 : decode cX7_loadsThatSneak 1 = .ok (.istore_n 1, 1) := by decide +kernel
theorem dX7_loadsThatSneak_2 : decode cX7_loadsThatSneak 2 = .ok (.iconst 0, 1) := by decide +kernel
theorem dX7_loadsThatSneak_3 : decode cX7_loadsThatSneak 3 = .ok (.istore_n 2, 1) := by decide +kernel
theorem dX7_loadsThatSneak_4 : decode cX7_loadsThatSneak 4 = .ok (.iload_n 2, 1) := by decide +kernel
theorem dX7_loadsThatSneak_5 : decode cX7_loadsThatSneak 5 = .ok (.aload_n 0, 1) := by decide +kernel
theorem dX7_loadsThatSneak_6 : decode cX7_loadsThatSneak 6 = .ok (.getfield 19, 3) := by decide +kernel
theorem dX7_loadsThatSneak_9 : decode cX7_loadsThatSneak 9 = .ok (.getfield 233, 3) := by decide +kernel
theorem dX7_loadsThatSneak_12 : decode cX7_loadsThatSneak 12 = .ok (.if_icmp .ge 32, 3) := by decide +kernel
theorem dX7_loadsThatSneak_15 : decode cX7_loadsThatSneak 15 = .ok (.aload_n 0, 1) := by decide +kernel
theorem dX7_loadsThatSneak_16 : decode cX7_loadsThatSneak 16 = .ok (.iload_n 2, 1) := by decide +kernel
theorem dX7_loadsThatSneak_17 : decode cX7_loadsThatSneak 17 = .ok (.invokevirtual 135, 3) := by decide +kernel
theorem dX7_loadsThatSneak_20 : decode cX7_loadsThatSneak 20 = .ok (.aload_n 0, 1) := by decide +kernel
theorem dX7_loadsThatSneak_21 : decode cX7_loadsThatSneak 21 = .ok (.getfield 26, 3) := by decide +kernel
theorem dX7_loadsThatSneak_24 : decode cX7_loadsThatSneak 24 = .ok (.getfield 139, 3) := by decide +kernel
theorem dX7_loadsThatSneak_27 : decode cX7_loadsThatSneak 27 = .ok (.iload_n 2, 1) := by decide +kernel
theorem dX7_loadsThatSneak_28 : decode cX7_loadsThatSneak 28 = .ok (.iaload, 1) := by decide +kernel
theorem dX7_loadsThatSneak_29 : decode cX7_loadsThatSneak 29 = .ok (.iconst (-1), 1) := by decide +kernel
theorem dX7_loadsThatSneak_30 : decode cX7_loadsThatSneak 30 = .ok (.ixor, 1) := by decide +kernel
theorem dX7_loadsThatSneak_31 : decode cX7_loadsThatSneak 31 = .ok (.iand, 1) := by decide +kernel
theorem dX7_loadsThatSneak_32 : decode cX7_loadsThatSneak 32 = .ok (.ifCond .eq 6, 3) := by decide +kernel
theorem dX7_loadsThatSneak_35 : decode cX7_loadsThatSneak 35 = .ok (.iinc 1 1, 3) := by decide +kernel
theorem dX7_loadsThatSneak_38 : decode cX7_loadsThatSneak 38 = .ok (.iinc 2 1, 3) := by decide +kernel
theorem dX7_loadsThatSneak_41 : decode cX7_loadsThatSneak 41 = .ok (.goto (-37), 3) := by decide +kernel
theorem dX7_loadsThatSneak_44 : decode cX7_loadsThatSneak 44 = .ok (.iload_n 1, 1) := by decide +kernel
theorem dX7_loadsThatSneak_45 : decode cX7_loadsThatSneak 45 = .ok (.ireturn, 1) := by decide +kernel
theorem dX7_loadsThatMiss_0 : decode cX7_loadsThatMiss 0 = .ok (.iconst 0, 1) := by decide +kernel
theorem dX7_loadsThatMiss_1 : decode cX7_loadsThatMiss 1 = .ok (.istore_n 1, 1) := by decide +kernel
theorem dX7_loadsThatMiss_2 : decode cX7_loadsThatMiss 2 = .ok (.iconst 0, 1) := by decide +kernel
theorem dX7_loadsThatMiss_3 : decode cX7_loadsThatMiss 3 = .ok (.istore_n 2, 1) := by decide +kernel
theorem dX7_loadsThatMiss_4 : decode cX7_loadsThatMiss 4 = .ok (.iload_n 2, 1) := by decide +kernel
theorem dX7_loadsThatMiss_5 : decode cX7_loadsThatMiss 5 = .ok (.aload_n 0, 1) := by decide +kernel
theorem dX7_loadsThatMiss_6 : decode cX7_loadsThatMiss 6 = .ok (.getfield 19, 3) := by decide +kernel
theorem dX7_loadsThatMiss_9 : decode cX7_loadsThatMiss 9 = .ok (.getfield 233, 3) := by decide +kernel
theorem dX7_loadsThatMiss_12 : decode cX7_loadsThatMiss 12 = .ok (.if_icmp .ge 32, 3) := by decide +kernel
theorem dX7_loadsThatMiss_15 : decode cX7_loadsThatMiss 15 = .ok (.aload_n 0, 1) := by decide +kernel
theorem dX7_loadsThatMiss_16 : decode cX7_loadsThatMiss 16 = .ok (.getfield 26, 3) := by decide +kernel
theorem dX7_loadsThatMiss_19 : decode cX7_loadsThatMiss 19 = .ok (.getfield 139, 3) := by decide +kernel
theorem dX7_loadsThatMiss_22 : decode cX7_loadsThatMiss 22 = .ok (.iload_n 2, 1) := by decide +kernel
theorem dX7_loadsThatMiss_23 : decode cX7_loadsThatMiss 23 = .ok (.iaload, 1) := by decide +kernel
theorem dX7_loadsThatMiss_24 : decode cX7_loadsThatMiss 24 = .ok (.aload_n 0, 1) := by decide +kernel
theorem dX7_loadsThatMiss_25 : decode cX7_loadsThatMiss 25 = .ok (.iload_n 2, 1) := by decide +kernel
theorem dX7_loadsThatMiss_26 : decode cX7_loadsThatMiss 26 = .ok (.invokevirtual 135, 3) := by decide +kernel
theorem dX7_loadsThatMiss_29 : decode cX7_loadsThatMiss 29 = .ok (.iconst (-1), 1) := by decide +kernel
theorem dX7_loadsThatMiss_30 : decode cX7_loadsThatMiss 30 = .ok (.ixor, 1) := by decide +kernel
theorem dX7_loadsThatMiss_31 : decode cX7_loadsThatMiss 31 = .ok (.iand, 1) := by decide +kernel
theorem dX7_loadsThatMiss_32 : decode cX7_loadsThatMiss 32 = .ok (.ifCond .eq 6, 3) := by decide +kernel
theorem dX7_loadsThatMiss_35 : decode cX7_loadsThatMiss 35 = .ok (.iinc 1 1, 3) := by decide +kernel
theorem dX7_loadsThatMiss_38 : decode cX7_loadsThatMiss 38 = .ok (.iinc 2 1, 3) := by decide +kernel
theorem dX7_loadsThatMiss_41 : decode cX7_loadsThatMiss 41 = .ok (.goto (-37), 3) := by decide +kernel
theorem dX7_loadsThatMiss_44 : decode cX7_loadsThatMiss 44 = .ok (.iload_n 1, 1) := by decide +kernel
theorem dX7_loadsThatMiss_45 : decode cX7_loadsThatMiss 45 = .ok (.ireturn, 1) := by decide +kernel
theorem dX7_noteMissing_0 : decode cX7_noteMissing 0 = .ok (.aload_n 0, 1) := by decide +kernel
theorem dX7_noteMissing_1 : decode cX7_noteMissing 1 = .ok (.getfield 49, 3) := by decide +kernel
theorem dX7_noteMissing_4 : decode cX7_noteMissing 4 = .ok (.invokevirtual 157, 3) := by decide +kernel
theorem dX7_noteMissing_7 : decode cX7_noteMissing 7 = .ok (.aload_n 0, 1) := by decide +kernel
theorem dX7_noteMissing_8 : decode cX7_noteMissing 8 = .ok (.getfield 49, 3) := by decide +kernel
theorem dX7_noteMissing_11 : decode cX7_noteMissing 11 = .ok (.iconst 0, 1) := by decide +kernel
theorem dX7_noteMissing_12 : decode cX7_noteMissing 12 = .ok (.invokevirtual 217, 3) := by decide +kernel
theorem dX7_noteMissing_15 : decode cX7_noteMissing 15 = .ok (.iconst 0, 1) := by decide +kernel
theorem dX7_noteMissing_16 : decode cX7_noteMissing 16 = .ok (.istore_n 1, 1) := by decide +kernel
theorem dX7_noteMissing_17 : decode cX7_noteMissing 17 = .ok (.iload_n 1, 1) := by decide +kernel
theorem dX7_noteMissing_18 : decode cX7_noteMissing 18 = .ok (.aload_n 0, 1) := by decide +kernel
theorem dX7_noteMissing_19 : decode cX7_noteMissing 19 = .ok (.getfield 19, 3) := by decide +kernel
theorem dX7_noteMissing_22 : decode cX7_noteMissing 22 = .ok (.getfield 233, 3) := by decide +kernel
theorem dX7_noteMissing_25 : decode cX7_noteMissing 25 = .ok (.if_icmp .ge 35, 3) := by decide +kernel
theorem dX7_noteMissing_28 : decode cX7_noteMissing 28 = .ok (.aload_n 0, 1) := by decide +kernel
theorem dX7_noteMissing_29 : decode cX7_noteMissing 29 = .ok (.getfield 70, 3) := by decide +kernel
theorem dX7_noteMissing_32 : decode cX7_noteMissing 32 = .ok (.iload_n 1, 1) := by decide +kernel
theorem dX7_noteMissing_33 : decode cX7_noteMissing 33 = .ok (.aload_n 0, 1) := by decide +kernel
theorem dX7_noteMissing_34 : decode cX7_noteMissing 34 = .ok (.getfield 26, 3) := by decide +kernel
theorem dX7_noteMissing_37 : decode cX7_noteMissing 37 = .ok (.getfield 139, 3) := by decide +kernel
theorem dX7_noteMissing_40 : decode cX7_noteMissing 40 = .ok (.iload_n 1, 1) := by decide +kernel
theorem dX7_noteMissing_41 : decode cX7_noteMissing 41 = .ok (.iaload, 1) := by decide +kernel
theorem dX7_noteMissing_42 : decode cX7_noteMissing 42 = .ok (.aload_n 0, 1) := by decide +kernel
theorem dX7_noteMissing_43 : decode cX7_noteMissing 43 = .ok (.getfield 49, 3) := by decide +kernel
theorem dX7_noteMissing_46 : decode cX7_noteMissing 46 = .ok (.iload_n 1, 1) := by decide +kernel
theorem dX7_noteMissing_47 : decode cX7_noteMissing 47 = .ok (.invokevirtual 242, 3) := by decide +kernel
theorem dX7_noteMissing_50 : decode cX7_noteMissing 50 = .ok (.iconst (-1), 1) := by decide +kernel
theorem dX7_noteMissing_51 : decode cX7_noteMissing 51 = .ok (.ixor, 1) := by decide +kernel
theorem dX7_noteMissing_52 : decode cX7_noteMissing 52 = .ok (.iand, 1) := by decide +kernel
theorem dX7_noteMissing_53 : decode cX7_noteMissing 53 = .ok (.iastore, 1) := by decide +kernel
theorem dX7_noteMissing_54 : decode cX7_noteMissing 54 = .ok (.iinc 1 1, 3) := by decide +kernel
theorem dX7_noteMissing_57 : decode cX7_noteMissing 57 = .ok (.goto (-40), 3) := by decide +kernel
theorem dX7_noteMissing_60 : decode cX7_noteMissing 60 = .ok (.return_, 1) := by decide +kernel
theorem dX7_isEnough_0 : decode cX7_isEnough 0 = .ok (.aload_n 0, 1) := by decide +kernel
theorem dX7_isEnough_1 : decode cX7_isEnough 1 = .ok (.getfield 49, 3) := by decide +kernel
theorem dX7_isEnough_4 : decode cX7_isEnough 4 = .ok (.iload_n 1, 1) := by decide +kernel
theorem dX7_isEnough_5 : decode cX7_isEnough 5 = .ok (.iload_n 2, 1) := by decide +kernel
theorem dX7_isEnough_6 : decode cX7_isEnough 6 = .ok (.iload_n 3, 1) := by decide +kernel
theorem dX7_isEnough_7 : decode cX7_isEnough 7 = .ok (.aload_n 0, 1) := by decide +kernel
theorem dX7_isEnough_8 : decode cX7_isEnough 8 = .ok (.getfield 26, 3) := by decide +kernel
theorem dX7_isEnough_11 : decode cX7_isEnough 11 = .ok (.getfield 126, 3) := by decide +kernel
theorem dX7_isEnough_14 : decode cX7_isEnough 14 = .ok (.iload_n 1, 1) := by decide +kernel
theorem dX7_isEnough_15 : decode cX7_isEnough 15 = .ok (.iaload, 1) := by decide +kernel
theorem dX7_isEnough_16 : decode cX7_isEnough 16 = .ok (.invokevirtual 214, 3) := by decide +kernel
theorem dX7_isEnough_19 : decode cX7_isEnough 19 = .ok (.aload_n 0, 1) := by decide +kernel
theorem dX7_isEnough_20 : decode cX7_isEnough 20 = .ok (.getfield 49, 3) := by decide +kernel
theorem dX7_isEnough_23 : decode cX7_isEnough 23 = .ok (.iconst 0, 1) := by decide +kernel
theorem dX7_isEnough_24 : decode cX7_isEnough 24 = .ok (.invokevirtual 217, 3) := by decide +kernel
theorem dX7_isEnough_27 : decode cX7_isEnough 27 = .ok (.iconst 1, 1) := by decide +kernel
theorem dX7_isEnough_28 : decode cX7_isEnough 28 = .ok (.istore 4, 2) := by decide +kernel
theorem dX7_isEnough_30 : decode cX7_isEnough 30 = .ok (.iconst 0, 1) := by decide +kernel
theorem dX7_isEnough_31 : decode cX7_isEnough 31 = .ok (.istore 5, 2) := by decide +kernel
theorem dX7_isEnough_33 : decode cX7_isEnough 33 = .ok (.iload 5, 2) := by decide +kernel
theorem dX7_isEnough_35 : decode cX7_isEnough 35 = .ok (.aload_n 0, 1) := by decide +kernel
theorem dX7_isEnough_36 : decode cX7_isEnough 36 = .ok (.getfield 19, 3) := by decide +kernel
theorem dX7_isEnough_39 : decode cX7_isEnough 39 = .ok (.getfield 233, 3) := by decide +kernel
theorem dX7_isEnough_42 : decode cX7_isEnough 42 = .ok (.if_icmp .ge 77, 3) := by decide +kernel
theorem dX7_isEnough_45 : decode cX7_isEnough 45 = .ok (.aload_n 0, 1) := by decide +kernel
theorem dX7_isEnough_46 : decode cX7_isEnough 46 = .ok (.getfield 49, 3) := by decide +kernel
theorem dX7_isEnough_49 : decode cX7_isEnough 49 = .ok (.iload 5, 2) := by decide +kernel
theorem dX7_isEnough_51 : decode cX7_isEnough 51 = .ok (.invokevirtual 242, 3) := by decide +kernel
theorem dX7_isEnough_54 : decode cX7_isEnough 54 = .ok (.istore 6, 2) := by decide +kernel
theorem dX7_isEnough_56 : decode cX7_isEnough 56 = .ok (.iload 6, 2) := by decide +kernel
theorem dX7_isEnough_58 : decode cX7_isEnough 58 = .ok (.aload_n 0, 1) := by decide +kernel
theorem dX7_isEnough_59 : decode cX7_isEnough 59 = .ok (.getfield 26, 3) := by decide +kernel
theorem dX7_isEnough_62 : decode cX7_isEnough 62 = .ok (.getfield 139, 3) := by decide +kernel
theorem dX7_isEnough_65 : decode cX7_isEnough 65 = .ok (.iload 5, 2) := by decide +kernel
theorem dX7_isEnough_67 : decode cX7_isEnough 67 = .ok (.iaload, 1) := by decide +kernel
theorem dX7_isEnough_68 : decode cX7_isEnough 68 = .ok (.iconst (-1), 1) := by decide +kernel
theorem dX7_isEnough_69 : decode cX7_isEnough 69 = .ok (.ixor, 1) := by decide +kernel
theorem dX7_isEnough_70 : decode cX7_isEnough 70 = .ok (.iand, 1) := by decide +kernel
theorem dX7_isEnough_71 : decode cX7_isEnough 71 = .ok (.istore 7, 2) := by decide +kernel
theorem dX7_isEnough_73 : decode cX7_isEnough 73 = .ok (.aload_n 0, 1) := by decide +kernel
theorem dX7_isEnough_74 : decode cX7_isEnough 74 = .ok (.getfield 26, 3) := by decide +kernel
theorem dX7_isEnough_77 : decode cX7_isEnough 77 = .ok (.getfield 139, 3) := by decide +kernel
theorem dX7_isEnough_80 : decode cX7_isEnough 80 = .ok (.iload 5, 2) := by decide +kernel
theorem dX7_isEnough_82 : decode cX7_isEnough 82 = .ok (.iaload, 1) := by decide +kernel
theorem dX7_isEnough_83 : decode cX7_isEnough 83 = .ok (.iload 6, 2) := by decide +kernel
theorem dX7_isEnough_85 : decode cX7_isEnough 85 = .ok (.iconst (-1), 1) := by decide +kernel
theorem dX7_isEnough_86 : decode cX7_isEnough 86 = .ok (.ixor, 1) := by decide +kernel
theorem dX7_isEnough_87 : decode cX7_isEnough 87 = .ok (.iand, 1) := by decide +kernel
theorem dX7_isEnough_88 : decode cX7_isEnough 88 = .ok (.istore 8, 2) := by decide +kernel
theorem dX7_isEnough_90 : decode cX7_isEnough 90 = .ok (.iload 7, 2) := by decide +kernel
theorem dX7_isEnough_92 : decode cX7_isEnough 92 = .ok (.ifCond .ne 18, 3) := by decide +kernel
theorem dX7_isEnough_95 : decode cX7_isEnough 95 = .ok (.iload 8, 2) := by decide +kernel
theorem dX7_isEnough_97 : decode cX7_isEnough 97 = .ok (.aload_n 0, 1) := by decide +kernel
theorem dX7_isEnough_98 : decode cX7_isEnough 98 = .ok (.getfield 70, 3) := by decide +kernel
theorem dX7_isEnough_101 : decode cX7_isEnough 101 = .ok (.iload 5, 2) := by decide +kernel
theorem dX7_isEnough_103 : decode cX7_isEnough 103 = .ok (.iaload, 1) := by decide +kernel
theorem dX7_isEnough_104 : decode cX7_isEnough 104 = .ok (.iconst (-1), 1) := by decide +kernel
theorem dX7_isEnough_105 : decode cX7_isEnough 105 = .ok (.ixor, 1) := by decide +kernel
theorem dX7_isEnough_106 : decode cX7_isEnough 106 = .ok (.iand, 1) := by decide +kernel
theorem dX7_isEnough_107 : decode cX7_isEnough 107 = .ok (.ifCond .eq 6, 3) := by decide +kernel
theorem dX7_isEnough_110 : decode cX7_isEnough 110 = .ok (.iconst 0, 1) := by decide +kernel
theorem dX7_isEnough_111 : decode cX7_isEnough 111 = .ok (.istore 4, 2) := by decide +kernel
theorem dX7_isEnough_113 : decode cX7_isEnough 113 = .ok (.iinc 5 1, 3) := by decide +kernel
theorem dX7_isEnough_116 : decode cX7_isEnough 116 = .ok (.goto (-83), 3) := by decide +kernel
theorem dX7_isEnough_119 : decode cX7_isEnough 119 = .ok (.aload_n 0, 1) := by decide +kernel
theorem dX7_isEnough_120 : decode cX7_isEnough 120 = .ok (.getfield 49, 3) := by decide +kernel
theorem dX7_isEnough_123 : decode cX7_isEnough 123 = .ok (.iload_n 1, 1) := by decide +kernel
theorem dX7_isEnough_124 : decode cX7_isEnough 124 = .ok (.aload_n 0, 1) := by decide +kernel
theorem dX7_isEnough_125 : decode cX7_isEnough 125 = .ok (.getfield 26, 3) := by decide +kernel
theorem dX7_isEnough_128 : decode cX7_isEnough 128 = .ok (.getfield 120, 3) := by decide +kernel
theorem dX7_isEnough_131 : decode cX7_isEnough 131 = .ok (.iload_n 1, 1) := by decide +kernel
theorem dX7_isEnough_132 : decode cX7_isEnough 132 = .ok (.iaload, 1) := by decide +kernel
theorem dX7_isEnough_133 : decode cX7_isEnough 133 = .ok (.aload_n 0, 1) := by decide +kernel
theorem dX7_isEnough_134 : decode cX7_isEnough 134 = .ok (.getfield 26, 3) := by decide +kernel
theorem dX7_isEnough_137 : decode cX7_isEnough 137 = .ok (.getfield 123, 3) := by decide +kernel
theorem dX7_isEnough_140 : decode cX7_isEnough 140 = .ok (.iload_n 1, 1) := by decide +kernel
theorem dX7_isEnough_141 : decode cX7_isEnough 141 = .ok (.iaload, 1) := by decide +kernel
theorem dX7_isEnough_142 : decode cX7_isEnough 142 = .ok (.aload_n 0, 1) := by decide +kernel
theorem dX7_isEnough_143 : decode cX7_isEnough 143 = .ok (.getfield 26, 3) := by decide +kernel
theorem dX7_isEnough_146 : decode cX7_isEnough 146 = .ok (.getfield 126, 3) := by decide +kernel
theorem dX7_isEnough_149 : decode cX7_isEnough 149 = .ok (.iload_n 1, 1) := by decide +kernel
theorem dX7_isEnough_150 : decode cX7_isEnough 150 = .ok (.iaload, 1) := by decide +kernel
theorem dX7_isEnough_151 : decode cX7_isEnough 151 = .ok (.invokevirtual 214, 3) := by decide +kernel
theorem dX7_isEnough_154 : decode cX7_isEnough 154 = .ok (.iload 4, 2) := by decide +kernel
theorem dX7_isEnough_156 : decode cX7_isEnough 156 = .ok (.ireturn, 1) := by decide +kernel
theorem dX7_weight_0 : decode cX7_weight 0 = .ok (.iconst 1, 1) := by decide +kernel
theorem dX7_weight_1 : decode cX7_weight 1 = .ok (.istore_n 2, 1) := by decide +kernel
theorem dX7_weight_2 : decode cX7_weight 2 = .ok (.iconst 0, 1) := by decide +kernel
theorem dX7_weight_3 : decode cX7_weight 3 = .ok (.istore_n 3, 1) := by decide +kernel
theorem dX7_weight_4 : decode cX7_weight 4 = .ok (.iload_n 3, 1) := by decide +kernel
theorem dX7_weight_5 : decode cX7_weight 5 = .ok (.iload_n 1, 1) := by decide +kernel
theorem dX7_weight_6 : decode cX7_weight 6 = .ok (.if_icmp .ge 13, 3) := by decide +kernel
theorem dX7_weight_9 : decode cX7_weight 9 = .ok (.iload_n 2, 1) := by decide +kernel
theorem dX7_weight_10 : decode cX7_weight 10 = .ok (.iload_n 0, 1) := by decide +kernel
theorem dX7_weight_11 : decode cX7_weight 11 = .ok (.imul, 1) := by decide +kernel
theorem dX7_weight_12 : decode cX7_weight 12 = .ok (.istore_n 2, 1) := by decide +kernel
theorem dX7_weight_13 : decode cX7_weight 13 = .ok (.iinc 3 1, 3) := by decide +kernel
theorem dX7_weight_16 : decode cX7_weight 16 = .ok (.goto (-12), 3) := by decide +kernel
theorem dX7_weight_19 : decode cX7_weight 19 = .ok (.iload_n 2, 1) := by decide +kernel
theorem dX7_weight_20 : decode cX7_weight 20 = .ok (.ireturn, 1) := by decide +kernel
theorem dX7_commonDivisor_0 : decode cX7_commonDivisor 0 = .ok (.iload_n 0, 1) := by decide +kernel
theorem dX7_commonDivisor_1 : decode cX7_commonDivisor 1 = .ok (.istore_n 2, 1) := by decide +kernel
theorem dX7_commonDivisor_2 : decode cX7_commonDivisor 2 = .ok (.iload_n 1, 1) := by decide +kernel
theorem dX7_commonDivisor_3 : decode cX7_commonDivisor 3 = .ok (.istore_n 3, 1) := by decide +kernel
theorem dX7_commonDivisor_4 : decode cX7_commonDivisor 4 = .ok (.iconst 0, 1) := by decide +kernel
theorem dX7_commonDivisor_5 : decode cX7_commonDivisor 5 = .ok (.istore 4, 2) := by decide +kernel
theorem dX7_commonDivisor_7 : decode cX7_commonDivisor 7 = .ok (.iload 4, 2) := by decide +kernel
theorem dX7_commonDivisor_9 : decode cX7_commonDivisor 9 = .ok (.bipush 64, 2) := by decide +kernel
theorem dX7_commonDivisor_11 : decode cX7_commonDivisor 11 = .ok (.if_icmp .ge 23, 3) := by decide +kernel
theorem dX7_commonDivisor_14 : decode cX7_commonDivisor 14 = .ok (.iload_n 3, 1) := by decide +kernel
theorem dX7_commonDivisor_15 : decode cX7_commonDivisor 15 = .ok (.ifCond .eq 19, 3) := by decide +kernel
theorem dX7_commonDivisor_18 : decode cX7_commonDivisor 18 = .ok (.iload_n 2, 1) := by decide +kernel
theorem dX7_commonDivisor_19 : decode cX7_commonDivisor 19 = .ok (.iload_n 3, 1) := by decide +kernel
theorem dX7_commonDivisor_20 : decode cX7_commonDivisor 20 = .ok (.irem, 1) := by decide +kernel
theorem dX7_commonDivisor_21 : decode cX7_commonDivisor 21 = .ok (.istore 5, 2) := by decide +kernel
theorem dX7_commonDivisor_23 : decode cX7_commonDivisor 23 = .ok (.iload_n 3, 1) := by decide +kernel
theorem dX7_commonDivisor_24 : decode cX7_commonDivisor 24 = .ok (.istore_n 2, 1) := by decide +kernel
theorem dX7_commonDivisor_25 : decode cX7_commonDivisor 25 = .ok (.iload 5, 2) := by decide +kernel
theorem dX7_commonDivisor_27 : decode cX7_commonDivisor 27 = .ok (.istore_n 3, 1) := by decide +kernel
theorem dX7_commonDivisor_28 : decode cX7_commonDivisor 28 = .ok (.iinc 4 1, 3) := by decide +kernel
theorem dX7_commonDivisor_31 : decode cX7_commonDivisor 31 = .ok (.goto (-24), 3) := by decide +kernel
theorem dX7_commonDivisor_34 : decode cX7_commonDivisor 34 = .ok (.iload_n 2, 1) := by decide +kernel
theorem dX7_commonDivisor_35 : decode cX7_commonDivisor 35 = .ok (.ifCond .le 7, 3) := by decide +kernel
theorem dX7_commonDivisor_38 : decode cX7_commonDivisor 38 = .ok (.iload_n 2, 1) := by decide +kernel
theorem dX7_commonDivisor_39 : decode cX7_commonDivisor 39 = .ok (.goto 4, 3) := by decide +kernel
theorem dX7_commonDivisor_42 : decode cX7_commonDivisor 42 = .ok (.iconst 1, 1) := by decide +kernel
theorem dX7_commonDivisor_43 : decode cX7_commonDivisor 43 = .ok (.ireturn, 1) := by decide +kernel
end
section
theorem dX8_init_0 : decode cX8_init 0 = .ok (.aload_n 0, 1) := by decide +kernel
theorem dX8_init_1 : decode cX8_init 1 = .ok (.invokespecial 1, 3) := by decide +kernel
theorem dX8_init_4 : decode cX8_init 4 = .ok (.aload_n 0, 1) := by decide +kernel
theorem dX8_init_5 : decode cX8_init 5 = .ok (.bipush 100, 2) := by decide +kernel
theorem dX8_init_7 : decode cX8_init 7 = .ok (.newarray .int, 2) := by decide +kernel
theorem dX8_init_9 : decode cX8_init 9 = .ok (.putfield 7, 3) := by decide +kernel
theorem dX8_init_12 : decode cX8_init 12 = .ok (.aload_n 0, 1) := by decide +kernel
theorem dX8_init_13 : decode cX8_init 13 = .ok (.bipush 42, 2) := by decide +kernel
theorem dX8_init_15 : decode cX8_init 15 = .ok (.newarray .int, 2) := by decide +kernel
theorem dX8_init_17 : decode cX8_init 17 = .ok (.putfield 13, 3) := by decide +kernel
theorem dX8_init_20 : decode cX8_init 20 = .ok (.aload_n 0, 1) := by decide +kernel
theorem dX8_init_21 : decode cX8_init 21 = .ok (.bipush 42, 2) := by decide +kernel
theorem dX8_init_23 : decode cX8_init 23 = .ok (.newarray .int, 2) := by decide +kernel
theorem dX8_init_25 : decode cX8_init 25 = .ok (.putfield 16, 3) := by decide +kernel
theorem dX8_init_28 : decode cX8_init 28 = .ok (.aload_n 0, 1) := by decide +kernel
theorem dX8_init_29 : decode cX8_init 29 = .ok (.bipush 30, 2) := by decide +kernel
theorem dX8_init_31 : decode cX8_init 31 = .ok (.newarray .int, 2) := by decide +kernel
theorem dX8_init_33 : decode cX8_init 33 = .ok (.putfield 19, 3) := by decide +kernel
theorem dX8_init_36 : decode cX8_init 36 = .ok (.aload_n 0, 1) := by decide +kernel
theorem dX8_init_37 : decode cX8_init 37 = .ok (.sipush 300, 3) := by decide +kernel
theorem dX8_init_40 : decode cX8_init 40 = .ok (.newarray .int, 2) := by decide +kernel
theorem dX8_init_42 : decode cX8_init 42 = .ok (.putfield 22, 3) := by decide +kernel
theorem dX8_init_45 : decode cX8_init 45 = .ok (.aload_n 0, 1) := by decide +kernel
theorem dX8_init_46 : decode cX8_init 46 = .ok (.bipush 60, 2) := by decide +kernel
theorem dX8_init_48 : decode cX8_init 48 = .ok (.newarray .int, 2) := by decide +kernel
theorem dX8_init_50 : decode cX8_init 50 = .ok (.putfield 25, 3) := by decide +kernel
theorem dX8_init_53 : decode cX8_init 53 = .ok (.aload_n 0, 1) := by decide +kernel
theorem dX8_init_54 : decode cX8_init 54 = .ok (.iconst 2, 1) := by decide +kernel
theorem dX8_init_55 : decode cX8_init 55 = .ok (.newarray .boolean, 2) := by decide +kernel
theorem dX8_init_57 : decode cX8_init 57 = .ok (.putfield 28, 3) := by decide +kernel
theorem dX8_init_60 : decode cX8_init 60 = .ok (.aload_n 0, 1) := by decide +kernel
theorem dX8_init_61 : decode cX8_init 61 = .ok (.bipush 6, 2) := by decide +kernel
theorem dX8_init_63 : decode cX8_init 63 = .ok (.newarray .int, 2) := by decide +kernel
theorem dX8_init_65 : decode cX8_init 65 = .ok (.putfield 32, 3) := by decide +kernel
theorem dX8_init_68 : decode cX8_init 68 = .ok (.aload_n 0, 1) := by decide +kernel
theorem dX8_init_69 : decode cX8_init 69 = .ok (.bipush 6, 2) := by decide +kernel
theorem dX8_init_71 : decode cX8_init 71 = .ok (.newarray .int, 2) := by decide +kernel
theorem dX8_init_73 : decode cX8_init 73 = .ok (.putfield 35, 3) := by decide +kernel
theorem dX8_init_76 : decode cX8_init 76 = .ok (.aload_n 0, 1) := by decide +kernel
theorem dX8_init_77 : decode cX8_init 77 = .ok (.bipush 6, 2) := by decide +kernel
theorem dX8_init_79 : decode cX8_init 79 = .ok (.newarray .int, 2) := by decide +kernel
theorem dX8_init_81 : decode cX8_init 81 = .ok (.putfield 38, 3) := by decide +kernel
theorem dX8_init_84 : decode cX8_init 84 = .ok (.aload_n 0, 1) := by decide +kernel
theorem dX8_init_85 : decode cX8_init 85 = .ok (.bipush 8, 2) := by decide +kernel
theorem dX8_init_87 : decode cX8_init 87 = .ok (.newarray .int, 2) := by decide +kernel
theorem dX8_init_89 : decode cX8_init 89 = .ok (.putfield 41, 3) := by decide +kernel
theorem dX8_init_92 : decode cX8_init 92 = .ok (.aload_n 0, 1) := by decide +kernel
theorem dX8_init_93 : decode cX8_init 93 = .ok (.bipush 8, 2) := by decide +kernel
theorem dX8_init_95 : decode cX8_init 95 = .ok (.newarray .int, 2) := by decide +kernel
theorem dX8_init_97 : decode cX8_init 97 = .ok (.putfield 44, 3) := by decide +kernel
theorem dX8_init_100 : decode cX8_init 100 = .ok (.aload_n 0, 1) := by decide +kernel
theorem dX8_init_101 : decode cX8_init 101 = .ok (.bipush 8, 2) := by decide +kernel
theorem dX8_init_103 : decode cX8_init 103 = .ok (.newarray .int, 2) := by decide +kernel
theorem dX8_init_105 : decode cX8_init 105 = .ok (.putfield 47, 3) := by decide +kernel
theorem dX8_init_108 : decode cX8_init 108 = .ok (.aload_n 0, 1) := by decide +kernel
theorem dX8_init_109 : decode cX8_init 109 = .ok (.iconst 3, 1) := by decide +kernel
theorem dX8_init_110 : decode cX8_init 110 = .ok (.newarray .int, 2) := by decide +kernel
theorem dX8_init_112 : decode cX8_init 112 = .ok (.putfield 50, 3) := by decide +kernel
theorem dX8_init_115 : decode cX8_init 115 = .ok (.aload_n 0, 1) := by decide +kernel
theorem dX8_init_116 : decode cX8_init 116 = .ok (.invokevirtual 53, 3) := by decide +kernel
theorem dX8_init_119 : decode cX8_init 119 = .ok (.aload_n 0, 1) := by decide +kernel
theorem dX8_init_120 : decode cX8_init 120 = .ok (.invokevirtual 56, 3) := by decide +kernel
theorem dX8_init_123 : decode cX8_init 123 = .ok (.return_, 1) := by decide +kernel
theorem dX8_in_0 : decode cX8_in 0 = .ok (.iload_n 0, 1) := by decide +kernel
theorem dX8_in_1 : decode cX8_in 1 = .ok (.iload_n 1, 1) := by decide +kernel
theorem dX8_in_2 : decode cX8_in 2 = .ok (.if_icmp .lt 12, 3) := by decide +kernel
theorem dX8_in_5 : decode cX8_in 5 = .ok (.iload_n 0, 1) := by decide +kernel
theorem dX8_in_6 : decode cX8_in 6 = .ok (.iload_n 2, 1) := by decide +kernel
theorem dX8_in_7 : decode cX8_in 7 = .ok (.if_icmp .gt 7, 3) := by decide +kernel
theorem dX8_in_10 : decode cX8_in 10 = .ok (.iconst 1, 1) := by decide +kernel
theorem dX8_in_11 : decode cX8_in 11 = .ok (.goto 4, 3) := by decide +kernel
theorem dX8_in_14 : decode cX8_in 14 = .ok (.iconst 0, 1) := by decide +kernel
theorem dX8_in_15 : decode cX8_in 15 = .ok (.ireturn, 1) := by decide +kernel
theorem dX8_has_0 : decode cX8_has 0 = .ok (.iload_n 0, 1) := by decide +kernel
theorem dX8_has_1 : decode cX8_has 1 = .ok (.iload_n 1, 1) := by decide +kernel
theorem dX8_has_2 : decode cX8_has 2 = .ok (.ishr, 1) := by decide +kernel
theorem dX8_has_3 : decode cX8_has 3 = .ok (.iconst 1, 1) := by decide +kernel
theorem dX8_has_4 : decode cX8_has 4 = .ok (.iand, 1) := by decide +kernel
theorem dX8_has_5 : decode cX8_has 5 = .ok (.iconst 1, 1) := by decide +kernel
theorem dX8_has_6 : decode cX8_has 6 = .ok (.if_icmp .ne 7, 3) := by decide +kernel
theorem dX8_has_9 : decode cX8_has 9 = .ok (.iconst 1, 1) := by decide +kernel
theorem dX8_has_10 : decode cX8_has 10 = .ok (.goto 4, 3) := by decide +kernel
theorem dX8_has_13 : decode cX8_has 13 = .ok (.iconst 0, 1) := by decide +kernel
theorem dX8_has_14 : decode cX8_has 14 = .ok (.ireturn, 1) := by decide +kernel
theorem dX8_ones_0 : decode cX8_ones 0 = .ok (.iconst 0, 1) := by decide +kernel
theorem dX8_ones_1 : decode cX8_ones 1 = .ok (.istore_n 1, 1) := by decide +kernel
theorem dX8_ones_2 : decode cX8_ones 2 = .ok (.iload_n 0, 1) := by decide +kernel
theorem dX8_ones_3 : decode cX8_ones 3 = .ok (.istore_n 2, 1) := by decide +kernel
theorem dX8_ones_4 : decode cX8_ones 4 = .ok (.iload_n 2, 1) := by decide +kernel
theorem dX8_ones_5 : decode cX8_ones 5 = .ok (.ifCond .eq 15, 3) := by decide +kernel
theorem dX8_ones_8 : decode cX8_ones 8 = .ok (.iinc 1 1, 3) := by decide +kernel
theorem dX8_ones_11 : decode cX8_ones 11 = .ok (.iload_n 2, 1) := by decide +kernel
theorem dX8_ones_12 : decode cX8_ones 12 = .ok (.iload_n 2, 1) := by decide +kernel
theorem dX8_ones_13 : decode cX8_ones 13 = .ok (.iconst 1, 1) := by decide +kernel
theorem dX8_ones_14 : decode cX8_ones 14 = .ok (.isub, 1) := by decide +kernel
theorem dX8_ones_15 : decode cX8_ones 15 = .ok (.iand, 1) := by decide +kernel
theorem dX8_ones_16 : decode cX8_ones 16 = .ok (.istore_n 2, 1) := by decide +kernel
theorem dX8_ones_17 : decode cX8_ones 17 = .ok (.goto (-13), 3) := by decide +kernel
theorem dX8_ones_20 : decode cX8_ones 20 = .ok (.iload_n 1, 1) := by decide +kernel
theorem dX8_ones_21 : decode cX8_ones 21 = .ok (.ireturn, 1) := by decide +kernel
theorem dX8_type_0 : decode cX8_type 0 = .ok (.aload_n 0, 1) := by decide +kernel
theorem dX8_type_1 : decode cX8_type 1 = .ok (.iconst 0, 1) := by decide +kernel
theorem dX8_type_2 : decode cX8_type 2 = .ok (.putfield 59, 3) := by decide +kernel
theorem dX8_type_5 : decode cX8_type 5 = .ok (.iload_n 1, 1) := by decide +kernel
theorem dX8_type_6 : decode cX8_type 6 = .ok (.iconst 0, 1) := by decide +kernel
theorem dX8_type_7 : decode cX8_type 7 = .ok (.sipush 255, 3) := by decide +kernel
theorem dX8_type_10 : decode cX8_type 10 = .ok (.invokestatic 63, 3) := by decide +kernel
theorem dX8_type_13 : decode cX8_type 13 = .ok (.ifCond .ne 5, 3) := by decide +kernel
theorem dX8_type_16 : decode cX8_type 16 = .ok (.iconst (-1), 1) := by decide +kernel
theorem dX8_type_17 : decode cX8_type 17 = .ok (.ireturn, 1) := by decide +kernel
theorem dX8_type_18 : decode cX8_type 18 = .ok (.aload_n 0, 1) := by decide +kernel
theorem dX8_type_19 : decode cX8_type 19 = .ok (.getfield 67, 3) := by decide +kernel
theorem dX8_type_22 : decode cX8_type 22 = .ok (.bipush 100, 2) := by decide +kernel
theorem dX8_type_24 : decode cX8_type 24 = .ok (.if_icmp .ne 6, 3) := by decide +kernel
theorem dX8_type_27 : decode cX8_type 27 = .ok (.bipush (-3), 2) := by decide +kernel
theorem dX8_type_29 : decode cX8_type 29 = .ok (.ireturn, 1) := by decide +kernel
theorem dX8_type_30 : decode cX8_type 30 = .ok (.aload_n 0, 1) := by decide +kernel
theorem dX8_type_31 : decode cX8_type 31 = .ok (.getfield 7, 3) := by decide +kernel
theorem dX8_type_34 : decode cX8_type 34 = .ok (.aload_n 0, 1) := by decide +kernel
theorem dX8_type_35 : decode cX8_type 35 = .ok (.getfield 67, 3) := by decide +kernel
theorem dX8_type_38 : decode cX8_type 38 = .ok (.iload_n 1, 1) := by decide +kernel
theorem dX8_type_39 : decode cX8_type 39 = .ok (.iastore, 1) := by decide +kernel
theorem dX8_type_40 : decode cX8_type 40 = .ok (.aload_n 0, 1) := by decide +kernel
theorem dX8_type_41 : decode cX8_type 41 = .ok (.dup, 1) := by decide +kernel
theorem dX8_type_42 : decode cX8_type 42 = .ok (.getfield 67, 3) := by decide +kernel
theorem dX8_type_45 : decode cX8_type 45 = .ok (.iconst 1, 1) := by decide +kernel
theorem dX8_type_46 : decode cX8_type 46 = .ok (.iadd, 1) := by decide +kernel
theorem dX8_type_47 : decode cX8_type 47 = .ok (.putfield 67, 3) := by decide +kernel
theorem dX8_type_50 : decode cX8_type 50 = .ok (.aload_n 0, 1) := by decide +kernel
theorem dX8_type_51 : decode cX8_type 51 = .ok (.getfield 67, 3) := by decide +kernel
theorem dX8_type_54 : decode cX8_type 54 = .ok (.ireturn, 1) := by decide +kernel
theorem dX8_clear_0 : decode cX8_clear 0 = .ok (.aload_n 0, 1) := by decide +kernel
theorem dX8_clear_1 : decode cX8_clear 1 = .ok (.iconst 0, 1) := by decide +kernel
theorem dX8_clear_2 : decode cX8_clear 2 = .ok (.putfield 59, 3) := by decide +kernel
theorem dX8_clear_5 : decode cX8_clear 5 = .ok (.aload_n 0, 1) := by decide +kernel
theorem dX8_clear_6 : decode cX8_clear 6 = .ok (.getfield 67, 3) := by decide +kernel
theorem dX8_clear_9 : decode cX8_clear 9 = .ok (.istore_n 1, 1) := by decide +kernel
theorem dX8_clear_10 : decode cX8_clear 10 = .ok (.aload_n 0, 1) := by decide +kernel
theorem dX8_clear_11 : decode cX8_clear 11 = .ok (.iconst 0, 1) := by decide +kernel
theorem dX8_clear_12 : decode cX8_clear 12 = .ok (.putfield 67, 3) := by decide +kernel
theorem dX8_clear_15 : decode cX8_clear 15 = .ok (.iload_n 1, 1) := by decide +kernel
theorem dX8_clear_16 : decode cX8_clear 16 = .ok (.ireturn, 1) := by decide +kernel
theorem dX8_letterAt_0 : decode cX8_letterAt 0 = .ok (.iload_n 1, 1) := by decide +kernel
theorem dX8_letterAt_1 : decode cX8_letterAt 1 = .ok (.aload_n 0, 1) := by decide +kernel
theorem dX8_letterAt_2 : decode cX8_letterAt 2 = .ok (.getfield 67, 3) := by decide +kernel
theorem dX8_letterAt_5 : decode cX8_letterAt 5 = .ok (.if_icmp .ge 12, 3) := by decide +kernel
theorem dX8_letterAt_8 : decode cX8_letterAt 8 = .ok (.aload_n 0, 1) := by decide +kernel
theorem dX8_letterAt_9 : decode cX8_letterAt 9 = .ok (.getfield 7, 3) := by decide +kernel
theorem dX8_letterAt_12 : decode cX8_letterAt 12 = .ok (.iload_n 1, 1) := by decide +kernel
theorem dX8_letterAt_13 : decode cX8_letterAt 13 = .ok (.iaload, 1) := by decide +kernel
theorem dX8_letterAt_14 : decode cX8_letterAt 14 = .ok (.goto 4, 3) := by decide +kernel
theorem dX8_letterAt_17 : decode cX8_letterAt 17 = .ok (.iconst (-1), 1) := by decide +kernel
theorem dX8_letterAt_18 : decode cX8_letterAt 18 = .ok (.ireturn, 1) := by decide +kernel
theorem dX8_isLetter_0 : decode cX8_isLetter 0 = .ok (.iload_n 0, 1) := by decide +kernel
theorem dX8_isLetter_1 : decode cX8_isLetter 1 = .ok (.bipush 110, 2) := by decide +kernel
theorem dX8_isLetter_3 : decode cX8_isLetter 3 = .ok (.if_icmp .eq 33, 3) := by decide +kernel
theorem dX8_isLetter_6 : decode cX8_isLetter 6 = .ok (.iload_n 0, 1) := by decide +kernel
theorem dX8_isLetter_7 : decode cX8_isLetter 7 = .ok (.bipush 111, 2) := by decide +kernel
theorem dX8_isLetter_9 : decode cX8_isLetter 9 = .ok (.if_icmp .eq 27, 3) := by decide +kernel
theorem dX8_isLetter_12 : decode cX8_isLetter 12 = .ok (.iload_n 0, 1) := by decide +kernel
theorem dX8_isLetter_13 : decode cX8_isLetter 13 = .ok (.bipush 99, 2) := by decide +kernel
theorem dX8_isLetter_15 : decode cX8_isLetter 15 = .ok (.if_icmp .eq 21, 3) := by decide +kernel
theorem dX8_isLetter_18 : decode cX8_isLetter 18 = .ok (.iload_n 0, 1) := by decide +kernel
theorem dX8_isLetter_19 : decode cX8_isLetter 19 = .ok (.bipush 119, 2) := by decide +kernel
theorem dX8_isLetter_21 : decode cX8_isLetter 21 = .ok (.if_icmp .eq 15, 3) := by decide +kernel
theorem dX8_isLetter_24 : decode cX8_isLetter 24 = .ok (.iload_n 0, 1) := by decide +kernel
theorem dX8_isLetter_25 : decode cX8_isLetter 25 = .ok (.bipush 100, 2) := by decide +kernel
theorem dX8_isLetter_27 : decode cX8_isLetter 27 = .ok (.if_icmp .eq 9, 3) := by decide +kernel
theorem dX8_isLetter_30 : decode cX8_isLetter 30 = .ok (.iload_n 0, 1) := by decide +kernel
theorem dX8_isLetter_31 : decode cX8_isLetter 31 = .ok (.bipush 108, 2) := by decide +kernel
theorem dX8_isLetter_33 : decode cX8_isLetter 33 = .ok (.if_icmp .ne 7, 3) := by decide +kernel
theorem dX8_isLetter_36 : decode cX8_isLetter 36 = .ok (.iconst 1, 1) := by decide +kernel
theorem dX8_isLetter_37 : decode cX8_isLetter 37 = .ok (.goto 4, 3) := by decide +kernel
theorem dX8_isLetter_40 : decode cX8_isLetter 40 = .ok (.iconst 0, 1) := by decide +kernel
theorem dX8_isLetter_41 : decode cX8_isLetter 41 = .ok (.ireturn, 1) := by decide +kernel
theorem dX8_advances_0 : decode cX8_advances 0 = .ok (.aload_n 0, 1) := by decide +kernel
theorem dX8_advances_1 : decode cX8_advances 1 = .ok (.aload_n 0, 1) := by decide +kernel
theorem dX8_advances_2 : decode cX8_advances 2 = .ok (.getfield 70, 3) := by decide +kernel
theorem dX8_advances_5 : decode cX8_advances 5 = .ok (.invokevirtual 73, 3) := by decide +kernel
theorem dX8_advances_8 : decode cX8_advances 8 = .ok (.bipush 32, 2) := by decide +kernel
theorem dX8_advances_10 : decode cX8_advances 10 = .ok (.if_icmp .ne 16, 3) := by decide +kernel
theorem dX8_advances_13 : decode cX8_advances 13 = .ok (.aload_n 0, 1) := by decide +kernel
theorem dX8_advances_14 : decode cX8_advances 14 = .ok (.dup, 1) := by decide +kernel
theorem dX8_advances_15 : decode cX8_advances 15 = .ok (.getfield 70, 3) := by decide +kernel
theorem dX8_advances_18 : decode cX8_advances 18 = .ok (.iconst 1, 1) := by decide +kernel
theorem dX8_advances_19 : decode cX8_advances 19 = .ok (.iadd, 1) := by decide +kernel
theorem dX8_advances_20 : decode cX8_advances 20 = .ok (.putfield 70, 3) := by decide +kernel
theorem dX8_advances_23 : decode cX8_advances 23 = .ok (.goto (-23), 3) := by decide +kernel
theorem dX8_advances_26 : decode cX8_advances 26 = .ok (.aload_n 0, 1) := by decide +kernel
theorem dX8_advances_27 : decode cX8_advances 27 = .ok (.aload_n 0, 1) := by decide +kernel
theorem dX8_advances_28 : decode cX8_advances 28 = .ok (.getfield 70, 3) := by decide +kernel
theorem dX8_advances_31 : decode cX8_advances 31 = .ok (.putfield 77, 3) := by decide +kernel
theorem dX8_advances_34 : decode cX8_advances 34 = .ok (.aload_n 0, 1) := by decide +kernel
theorem dX8_advances_35 : decode cX8_advances 35 = .ok (.aload_n 0, 1) := by decide +kernel
theorem dX8_advances_36 : decode cX8_advances 36 = .ok (.getfield 70, 3) := by decide +kernel
theorem dX8_advances_39 : decode cX8_advances 39 = .ok (.invokevirtual 73, 3) := by decide +kernel
theorem dX8_advances_42 : decode cX8_advances 42 = .ok (.istore_n 1, 1) := by decide +kernel
theorem dX8_advances_43 : decode cX8_advances 43 = .ok (.iload_n 1, 1) := by decide +kernel
theorem dX8_advances_44 : decode cX8_advances 44 = .ok (.ifCond .ge 11, 3) := by decide +kernel
theorem dX8_advances_47 : decode cX8_advances 47 = .ok (.aload_n 0, 1) := by decide +kernel
theorem dX8_advances_48 : decode cX8_advances 48 = .ok (.iconst 0, 1) := by decide +kernel
theorem dX8_advances_49 : decode cX8_advances 49 = .ok (.putfield 80, 3) := by decide +kernel
theorem dX8_advances_52 : decode cX8_advances 52 = .ok (.goto 155, 3) := by decide +kernel
theorem dX8_advances_55 : decode cX8_advances 55 = .ok (.iload_n 1, 1) := by decide +kernel
theorem dX8_advances_56 : decode cX8_advances 56 = .ok (.bipush 48, 2) := by decide +kernel
theorem dX8_advances_58 : decode cX8_advances 58 = .ok (.bipush 57, 2) := by decide +kernel
theorem dX8_advances_60 : decode cX8_advances 60 = .ok (.invokestatic 63, 3) := by decide +kernel
theorem dX8_advances_63 : decode cX8_advances 63 = .ok (.ifCond .eq 103, 3) := by decide +kernel
theorem dX8_advances_66 : decode cX8_advances 66 = .ok (.aload_n 0, 1) := by decide +kernel
theorem dX8_advances_67 : decode cX8_advances 67 = .ok (.iconst 0, 1) := by decide +kernel
theorem dX8_advances_68 : decode cX8_advances 68 = .ok (.putfield 83, 3) := by decide +kernel
theorem dX8_advances_71 : decode cX8_advances 71 = .ok (.aload_n 0, 1) := by decide +kernel
theorem dX8_advances_72 : decode cX8_advances 72 = .ok (.aload_n 0, 1) := by decide +kernel
theorem dX8_advances_73 : decode cX8_advances 73 = .ok (.getfield 70, 3) := by decide +kernel
theorem dX8_advances_76 : decode cX8_advances 76 = .ok (.invokevirtual 73, 3) := by decide +kernel
theorem dX8_advances_79 : decode cX8_advances 79 = .ok (.bipush 48, 2) := by decide +kernel
theorem dX8_advances_81 : decode cX8_advances 81 = .ok (.bipush 57, 2) := by decide +kernel
theorem dX8_advances_83 : decode cX8_advances 83 = .ok (.invokestatic 63, 3) := by decide +kernel
theorem dX8_advances_86 : decode cX8_advances 86 = .ok (.ifCond .eq 55, 3) := by decide +kernel
theorem dX8_advances_89 : decode cX8_advances 89 = .ok (.aload_n 0, 1) := by decide +kernel
theorem dX8_advances_90 : decode cX8_advances 90 = .ok (.aload_n 0, 1) := by decide +kernel
theorem dX8_advances_91 : decode cX8_advances 91 = .ok (.getfield 83, 3) := by decide +kernel
theorem dX8_advances_94 : decode cX8_advances 94 = .ok (.bipush 9, 2) := by decide +kernel
theorem dX8_advances_96 : decode cX8_advances 96 = .ok (.if_icmp .le 10, 3) := by decide +kernel
theorem dX8_advances_99 : decode cX8_advances 99 = .ok (.aload_n 0, 1) := by decide +kernel
theorem dX8_advances_100 : decode cX8_advances 100 = .ok (.getfield 83, 3) := by decide +kernel
theorem dX8_advances_103 : decode cX8_advances 103 = .ok (.goto 22, 3) := by decide +kernel
theorem dX8_advances_106 : decode cX8_advances 106 = .ok (.bipush 10, 2) := by decide +kernel
theorem dX8_advances_108 : decode cX8_advances 108 = .ok (.aload_n 0, 1) := by decide +kernel
theorem dX8_advances_109 : decode cX8_advances 109 = .ok (.getfield 83, 3) := by decide +kernel
theorem dX8_advances_112 : decode cX8_advances 112 = .ok (.imul, 1) := by decide +kernel
theorem dX8_advances_113 : decode cX8_advances 113 = .ok (.aload_n 0, 1) := by decide +kernel
theorem dX8_advances_114 : decode cX8_advances 114 = .ok (.aload_n 0, 1) := by decide +kernel
theorem dX8_advances_115 : decode cX8_advances 115 = .ok (.getfield 70, 3) := by decide +kernel
theorem dX8_advances_118 : decode cX8_advances 118 = .ok (.invokevirtual 73, 3) := by decide +kernel
theorem dX8_advances_121 : decode cX8_advances 121 = .ok (.iadd, 1) := by decide +kernel
theorem dX8_advances_122 : decode cX8_advances 122 = .ok (.bipush 48, 2) := by decide +kernel
theorem dX8_advances_124 : decode cX8_advances 124 = .ok (.isub, 1) := by decide +kernel
theorem dX8_advances_125 : decode cX8_advances 125 = .ok (.putfield 83, 3) := by decide +kernel
theorem dX8_advances_128 : decode cX8_advances 128 = .ok (.aload_n 0, 1) := by decide +kernel
theorem dX8_advances_129 : decode cX8_advances 129 = .ok (.dup, 1) := by decide +kernel
theorem dX8_advances_130 : decode cX8_advances 130 = .ok (.getfield 70, 3) := by decide +kernel
theorem dX8_advances_133 : decode cX8_advances 133 = .ok (.iconst 1, 1) := by decide +kernel
theorem dX8_advances_134 : decode cX8_advances 134 = .ok (.iadd, 1) := by decide +kernel
theorem dX8_advances_135 : decode cX8_advances 135 = .ok (.putfield 70, 3) := by decide +kernel
theorem dX8_advances_138 : decode cX8_advances 138 = .ok (.goto (-67), 3) := by decide +kernel
theorem dX8_advances_141 : decode cX8_advances 141 = .ok (.aload_n 0, 1) := by decide +kernel
theorem dX8_advances_142 : decode cX8_advances 142 = .ok (.aload_n 0, 1) := by decide +kernel
theorem dX8_advances_143 : decode cX8_advances 143 = .ok (.getfield 70, 3) := by decide +kernel
theorem dX8_advances_146 : decode cX8_advances 146 = .ok (.aload_n 0, 1) := by decide +kernel
theorem dX8_advances_147 : decode cX8_advances 147 = .ok (.getfield 77, 3) := by decide +kernel
theorem dX8_advances_150 : decode cX8_advances 150 = .ok (.isub, 1) := by decide +kernel
theorem dX8_advances_151 : decode cX8_advances 151 = .ok (.iconst 1, 1) := by decide +kernel
theorem dX8_advances_152 : decode cX8_advances 152 = .ok (.if_icmp .le 7, 3) := by decide +kernel
theorem dX8_advances_155 : decode cX8_advances 155 = .ok (.iconst 4, 1) := by decide +kernel
theorem dX8_advances_156 : decode cX8_advances 156 = .ok (.goto 4, 3) := by decide +kernel
theorem dX8_advances_159 : decode cX8_advances 159 = .ok (.iconst 2, 1) := by decide +kernel
theorem dX8_advances_160 : decode cX8_advances 160 = .ok (.putfield 80, 3) := by decide +kernel
theorem dX8_advances_163 : decode cX8_advances 163 = .ok (.goto 44, 3) := by decide +kernel
theorem dX8_advances_166 : decode cX8_advances 166 = .ok (.aload_n 0, 1) := by decide +kernel
theorem dX8_advances_167 : decode cX8_advances 167 = .ok (.dup, 1) := by decide +kernel
theorem dX8_advances_168 : decode cX8_advances 168 = .ok (.getfield 70, 3) := by decide +kernel
theorem dX8_advances_171 : decode cX8_advances 171 = .ok (.iconst 1, 1) := by decide +kernel
theorem dX8_advances_172 : decode cX8_advances 172 = .ok (.iadd, 1) := by decide +kernel
theorem dX8_advances_173 : decode cX8_advances 173 = .ok (.putfield 70, 3) := by decide +kernel
theorem dX8_advances_176 : decode cX8_advances 176 = .ok (.aload_n 0, 1) := by decide +kernel
theorem dX8_advances_177 : decode cX8_advances 177 = .ok (.iload_n 1, 1) := by decide +kernel
theorem dX8_advances_178 : decode cX8_advances 178 = .ok (.putfield 83, 3) := by decide +kernel
theorem dX8_advances_181 : decode cX8_advances 181 = .ok (.aload_n 0, 1) := by decide +kernel
theorem dX8_advances_182 : decode cX8_advances 182 = .ok (.iload_n 1, 1) := by decide +kernel
theorem dX8_advances_183 : decode cX8_advances 183 = .ok (.bipush 59, 2) := by decide +kernel
theorem dX8_advances_185 : decode cX8_advances 185 = .ok (.if_icmp .ne 7, 3) := by decide +kernel
theorem dX8_advances_188 : decode cX8_advances 188 = .ok (.iconst 3, 1) := by decide +kernel
theorem dX8_advances_189 : decode cX8_advances 189 = .ok (.goto 15, 3) := by decide +kernel
theorem dX8_advances_192 : decode cX8_advances 192 = .ok (.iload_n 1, 1) := by decide +kernel
theorem dX8_advances_193 : decode cX8_advances 193 = .ok (.invokestatic 86, 3) := by decide +kernel
theorem dX8_advances_196 : decode cX8_advances 196 = .ok (.ifCond .eq 7, 3) := by decide +kernel
theorem dX8_advances_199 : decode cX8_advances 199 = .ok (.iconst 1, 1) := by decide +kernel
theorem dX8_advances_200 : decode cX8_advances 200 = .ok (.goto 4, 3) := by decide +kernel
theorem dX8_advances_203 : decode cX8_advances 203 = .ok (.iconst 4, 1) := by decide +kernel
theorem dX8_advances_204 : decode cX8_advances 204 = .ok (.putfield 80, 3) := by decide +kernel
theorem dX8_advances_207 : decode cX8_advances 207 = .ok (.return_, 1) := by decide +kernel
theorem dX8_isWell_0 : decode cX8_isWell 0 = .ok (.aload_n 0, 1) := by decide +kernel
theorem dX8_isWell_1 : decode cX8_isWell 1 = .ok (.getfield 90, 3) := by decide +kernel
theorem dX8_isWell_4 : decode cX8_isWell 4 = .ok (.ifCond .ge 7, 3) := by decide +kernel
theorem dX8_isWell_7 : decode cX8_isWell 7 = .ok (.iconst 1, 1) := by decide +kernel
theorem dX8_isWell_8 : decode cX8_isWell 8 = .ok (.goto 4, 3) := by decide +kernel
theorem dX8_isWell_11 : decode cX8_isWell 11 = .ok (.iconst 0, 1) := by decide +kernel
theorem dX8_isWell_12 : decode cX8_isWell 12 = .ok (.ireturn, 1) := by decide +kernel
theorem dX8_takes_0 : decode cX8_takes 0 = .ok (.aload_n 0, 1) := by decide +kernel
theorem dX8_takes_1 : decode cX8_takes 1 = .ok (.invokevirtual 93, 3) := by decide +kernel
theorem dX8_takes_4 : decode cX8_takes 4 = .ok (.ifCond .ne 5, 3) := by decide +kernel
theorem dX8_takes_7 : decode cX8_takes 7 = .ok (.iconst 0, 1) := by decide +kernel
theorem dX8_takes_8 : decode cX8_takes 8 = .ok (.ireturn, 1) := by decide +kernel
theorem dX8_takes_9 : decode cX8_takes 9 = .ok (.iload_n 1, 1) := by decide +kernel
theorem dX8_takes_10 : decode cX8_takes 10 = .ok (.ifCond .ne 13, 3) := by decide +kernel
theorem dX8_takes_13 : decode cX8_takes 13 = .ok (.aload_n 0, 1) := by decide +kernel
theorem dX8_takes_14 : decode cX8_takes 14 = .ok (.aload_n 0, 1) := by decide +kernel
theorem dX8_takes_15 : decode cX8_takes 15 = .ok (.getfield 77, 3) := by decide +kernel
theorem dX8_takes_18 : decode cX8_takes 18 = .ok (.putfield 90, 3) := by decide +kernel
theorem dX8_takes_21 : decode cX8_takes 21 = .ok (.iconst 0, 1) := by decide +kernel
theorem dX8_takes_22 : decode cX8_takes 22 = .ok (.ireturn, 1) := by decide +kernel
theorem dX8_takes_23 : decode cX8_takes 23 = .ok (.aload_n 0, 1) := by decide +kernel
theorem dX8_takes_24 : decode cX8_takes 24 = .ok (.getfield 83, 3) := by decide +kernel
theorem dX8_takes_27 : decode cX8_takes 27 = .ok (.istore_n 2, 1) := by decide +kernel
theorem dX8_takes_28 : decode cX8_takes 28 = .ok (.aload_n 0, 1) := by decide +kernel
theorem dX8_takes_29 : decode cX8_takes 29 = .ok (.invokevirtual 97, 3) := by decide +kernel
theorem dX8_takes_32 : decode cX8_takes 32 = .ok (.iload_n 2, 1) := by decide +kernel
theorem dX8_takes_33 : decode cX8_takes 33 = .ok (.ireturn, 1) := by decide +kernel
theorem dX8_isNumber_0 : decode cX8_isNumber 0 = .ok (.aload_n 0, 1) := by decide +kernel
theorem dX8_isNumber_1 : decode cX8_isNumber 1 = .ok (.getfield 80, 3) := by decide +kernel
theorem dX8_isNumber_4 : decode cX8_isNumber 4 = .ok (.iconst 2, 1) := by decide +kernel
theorem dX8_isNumber_5 : decode cX8_isNumber 5 = .ok (.if_icmp .ne 19, 3) := by decide +kernel
theorem dX8_isNumber_8 : decode cX8_isNumber 8 = .ok (.aload_n 0, 1) := by decide +kernel
theorem dX8_isNumber_9 : decode cX8_isNumber 9 = .ok (.getfield 83, 3) := by decide +kernel
theorem dX8_isNumber_12 : decode cX8_isNumber 12 = .ok (.iload_n 1, 1) := by decide +kernel
theorem dX8_isNumber_13 : decode cX8_isNumber 13 = .ok (.iload_n 2, 1) := by decide +kernel
theorem dX8_isNumber_14 : decode cX8_isNumber 14 = .ok (.invokestatic 63, 3) := by decide +kernel
theorem dX8_isNumber_17 : decode cX8_isNumber 17 = .ok (.ifCond .eq 7, 3) := by decide +kernel
theorem dX8_isNumber_20 : decode cX8_isNumber 20 = .ok (.iconst 1, 1) := by decide +kernel
theorem dX8_isNumber_21 : decode cX8_isNumber 21 = .ok (.goto 4, 3) := by decide +kernel
theorem dX8_isNumber_24 : decode cX8_isNumber 24 = .ok (.iconst 0, 1) := by decide +kernel
theorem dX8_isNumber_25 : decode cX8_isNumber 25 = .ok (.ireturn, 1) := by decide +kernel
theorem dX8_begins_0 : decode cX8_begins 0 = .ok (.iconst 0, 1) := by decide +kernel
theorem dX8_begins_1 : decode cX8_begins 1 = .ok (.istore_n 1, 1) := by decide +kernel
theorem dX8_begins_2 : decode cX8_begins 2 = .ok (.iload_n 1, 1) := by decide +kernel
theorem dX8_begins_3 : decode cX8_begins 3 = .ok (.bipush 42, 2) := by decide +kernel
theorem dX8_begins_5 : decode cX8_begins 5 = .ok (.if_icmp .ge 16, 3) := by decide +kernel
theorem dX8_begins_8 : decode cX8_begins 8 = .ok (.aload_n 0, 1) := by decide +kernel
theorem dX8_begins_9 : decode cX8_begins 9 = .ok (.getfield 16, 3) := by decide +kernel
theorem dX8_begins_12 : decode cX8_begins 12 = .ok (.iload_n 1, 1) := by decide +kernel
theorem dX8_begins_13 : decode cX8_begins 13 = .ok (.iconst 0, 1) := by decide +kernel
theorem dX8_begins_14 : decode cX8_begins 14 = .ok (.iastore, 1) := by decide +kernel
theorem dX8_begins_15 : decode cX8_begins 15 = .ok (.iinc 1 1, 3) := by decide +kernel
theorem dX8_begins_18 : decode cX8_begins 18 = .ok (.goto (-16), 3) := by decide +kernel
theorem dX8_begins_21 : decode cX8_begins 21 = .ok (.aload_n 0, 1) := by decide +kernel
theorem dX8_begins_22 : decode cX8_begins 22 = .ok (.getfield 16, 3) := by decide +kernel
theorem dX8_begins_25 : decode cX8_begins 25 = .ok (.iconst 0, 1) := by decide +kernel
theorem dX8_begins_26 : decode cX8_begins 26 = .ok (.iconst 3, 1) := by decide +kernel
theorem dX8_begins_27 : decode cX8_begins 27 = .ok (.iastore, 1) := by decide +kernel
theorem dX8_begins_28 : decode cX8_begins 28 = .ok (.return_, 1) := by decide +kernel
theorem dX8_isFreeNode_0 : decode cX8_isFreeNode 0 = .ok (.iload_n 1, 1) := by decide +kernel
theorem dX8_isFreeNode_1 : decode cX8_isFreeNode 1 = .ok (.ifCond .eq 7, 3) := by decide +kernel
theorem dX8_isFreeNode_4 : decode cX8_isFreeNode 4 = .ok (.iconst 1, 1) := by decide +kernel
theorem dX8_isFreeNode_5 : decode cX8_isFreeNode 5 = .ok (.goto 4, 3) := by decide +kernel
theorem dX8_isFreeNode_8 : decode cX8_isFreeNode 8 = .ok (.iconst 0, 1) := by decide +kernel
theorem dX8_isFreeNode_9 : decode cX8_isFreeNode 9 = .ok (.istore_n 2, 1) := by decide +kernel
theorem dX8_isFreeNode_10 : decode cX8_isFreeNode 10 = .ok (.iconst 0, 1) := by decide +kernel
theorem dX8_isFreeNode_11 : decode cX8_isFreeNode 11 = .ok (.istore_n 3, 1) := by decide +kernel
theorem dX8_isFreeNode_12 : decode cX8_isFreeNode 12 = .ok (.iload_n 3, 1) := by decide +kernel
theorem dX8_isFreeNode_13 : decode cX8_isFreeNode 13 = .ok (.aload_n 0, 1) := by decide +kernel
theorem dX8_isFreeNode_14 : decode cX8_isFreeNode 14 = .ok (.getfield 16, 3) := by decide +kernel
theorem dX8_isFreeNode_17 : decode cX8_isFreeNode 17 = .ok (.iconst 2, 1) := by decide +kernel
theorem dX8_isFreeNode_18 : decode cX8_isFreeNode 18 = .ok (.iaload, 1) := by decide +kernel
theorem dX8_isFreeNode_19 : decode cX8_isFreeNode 19 = .ok (.if_icmp .ge 32, 3) := by decide +kernel
theorem dX8_isFreeNode_22 : decode cX8_isFreeNode 22 = .ok (.iload_n 2, 1) := by decide +kernel
theorem dX8_isFreeNode_23 : decode cX8_isFreeNode 23 = .ok (.ifCond .eq 20, 3) := by decide +kernel
theorem dX8_isFreeNode_26 : decode cX8_isFreeNode 26 = .ok (.aload_n 0, 1) := by decide +kernel
theorem dX8_isFreeNode_27 : decode cX8_isFreeNode 27 = .ok (.getfield 16, 3) := by decide +kernel
theorem dX8_isFreeNode_30 : decode cX8_isFreeNode 30 = .ok (.bipush 39, 2) := by decide +kernel
theorem dX8_isFreeNode_32 : decode cX8_isFreeNode 32 = .ok (.iload_n 3, 1) := by decide +kernel
theorem dX8_isFreeNode_33 : decode cX8_isFreeNode 33 = .ok (.iadd, 1) := by decide +kernel
theorem dX8_isFreeNode_34 : decode cX8_isFreeNode 34 = .ok (.iaload, 1) := by decide +kernel
theorem dX8_isFreeNode_35 : decode cX8_isFreeNode 35 = .ok (.iload_n 1, 1) := by decide +kernel
theorem dX8_isFreeNode_36 : decode cX8_isFreeNode 36 = .ok (.if_icmp .eq 7, 3) := by decide +kernel
theorem dX8_isFreeNode_39 : decode cX8_isFreeNode 39 = .ok (.iconst 1, 1) := by decide +kernel
theorem dX8_isFreeNode_40 : decode cX8_isFreeNode 40 = .ok (.goto 4, 3) := by decide +kernel
theorem dX8_isFreeNode_43 : decode cX8_isFreeNode 43 = .ok (.iconst 0, 1) := by decide +kernel
theorem dX8_isFreeNode_44 : decode cX8_isFreeNode 44 = .ok (.istore_n 2, 1) := by decide +kernel
theorem dX8_isFreeNode_45 : decode cX8_isFreeNode 45 = .ok (.iinc 3 1, 3) := by decide +kernel
theorem dX8_isFreeNode_48 : decode cX8_isFreeNode 48 = .ok (.goto (-36), 3) := by decide +kernel
theorem dX8_isFreeNode_51 : decode cX8_isFreeNode 51 = .ok (.iload_n 2, 1) := by decide +kernel
theorem dX8_isFreeNode_52 : decode cX8_isFreeNode 52 = .ok (.ireturn, 1) := by decide +kernel
theorem dX8_readsContact_0 : decode cX8_readsContact 0 = .ok (.aload_n 0, 1) := by decide +kernel
theorem dX8_readsContact_1 : decode cX8_readsContact 1 = .ok (.getfield 16, 3) := by decide +kernel
theorem dX8_readsContact_4 : decode cX8_readsContact 4 = .ok (.iconst 1, 1) := by decide +kernel
theorem dX8_readsContact_5 : decode cX8_readsContact 5 = .ok (.iaload, 1) := by decide +kernel
theorem dX8_readsContact_6 : decode cX8_readsContact 6 = .ok (.istore_n 2, 1) := by decide +kernel
theorem dX8_readsContact_7 : decode cX8_readsContact 7 = .ok (.aload_n 0, 1) := by decide +kernel
theorem dX8_readsContact_8 : decode cX8_readsContact 8 = .ok (.getfield 16, 3) := by decide +kernel
theorem dX8_readsContact_11 : decode cX8_readsContact 11 = .ok (.iconst 0, 1) := by decide +kernel
theorem dX8_readsContact_12 : decode cX8_readsContact 12 = .ok (.iaload, 1) := by decide +kernel
theorem dX8_readsContact_13 : decode cX8_readsContact 13 = .ok (.iconst 1, 1) := by decide +kernel
theorem dX8_readsContact_14 : decode cX8_readsContact 14 = .ok (.isub, 1) := by decide +kernel
theorem dX8_readsContact_15 : decode cX8_readsContact 15 = .ok (.istore_n 3, 1) := by decide +kernel
theorem dX8_readsContact_16 : decode cX8_readsContact 16 = .ok (.aload_n 0, 1) := by decide +kernel
theorem dX8_readsContact_17 : decode cX8_readsContact 17 = .ok (.getfield 16, 3) := by decide +kernel
theorem dX8_readsContact_20 : decode cX8_readsContact 20 = .ok (.iconst 3, 1) := by decide +kernel
theorem dX8_readsContact_21 : decode cX8_readsContact 21 = .ok (.iload_n 2, 1) := by decide +kernel
theorem dX8_readsContact_22 : decode cX8_readsContact 22 = .ok (.iadd, 1) := by decide +kernel
theorem dX8_readsContact_23 : decode cX8_readsContact 23 = .ok (.iload_n 1, 1) := by decide +kernel
theorem dX8_readsContact_24 : decode cX8_readsContact 24 = .ok (.iastore, 1) := by decide +kernel
theorem dX8_readsContact_25 : decode cX8_readsContact 25 = .ok (.aload_n 0, 1) := by decide +kernel
theorem dX8_readsContact_26 : decode cX8_readsContact 26 = .ok (.getfield 16, 3) := by decide +kernel
theorem dX8_readsContact_29 : decode cX8_readsContact 29 = .ok (.bipush 12, 2) := by decide +kernel
theorem dX8_readsContact_31 : decode cX8_readsContact 31 = .ok (.iload_n 2, 1) := by decide +kernel
theorem dX8_readsContact_32 : decode cX8_readsContact 32 = .ok (.iadd, 1) := by decide +kernel
theorem dX8_readsContact_33 : decode cX8_readsContact 33 = .ok (.aload_n 0, 1) := by decide +kernel
theorem dX8_readsContact_34 : decode cX8_readsContact 34 = .ok (.aload_n 0, 1) := by decide +kernel
theorem dX8_readsContact_35 : decode cX8_readsContact 35 = .ok (.iconst 0, 1) := by decide +kernel
theorem dX8_readsContact_36 : decode cX8_readsContact 36 = .ok (.iload_n 3, 1) := by decide +kernel
theorem dX8_readsContact_37 : decode cX8_readsContact 37 = .ok (.invokevirtual 100, 3) := by decide +kernel
theorem dX8_readsContact_40 : decode cX8_readsContact 40 = .ok (.invokevirtual 104, 3) := by decide +kernel
theorem dX8_readsContact_43 : decode cX8_readsContact 43 = .ok (.iastore, 1) := by decide +kernel
theorem dX8_readsContact_44 : decode cX8_readsContact 44 = .ok (.aload_n 0, 1) := by decide +kernel
theorem dX8_readsContact_45 : decode cX8_readsContact 45 = .ok (.getfield 16, 3) := by decide +kernel
theorem dX8_readsContact_48 : decode cX8_readsContact 48 = .ok (.bipush 21, 2) := by decide +kernel
theorem dX8_readsContact_50 : decode cX8_readsContact 50 = .ok (.iload_n 2, 1) := by decide +kernel
theorem dX8_readsContact_51 : decode cX8_readsContact 51 = .ok (.iadd, 1) := by decide +kernel
theorem dX8_readsContact_52 : decode cX8_readsContact 52 = .ok (.aload_n 0, 1) := by decide +kernel
theorem dX8_readsContact_53 : decode cX8_readsContact 53 = .ok (.aload_n 0, 1) := by decide +kernel
theorem dX8_readsContact_54 : decode cX8_readsContact 54 = .ok (.iconst 0, 1) := by decide +kernel
theorem dX8_readsContact_55 : decode cX8_readsContact 55 = .ok (.iload_n 3, 1) := by decide +kernel
theorem dX8_readsContact_56 : decode cX8_readsContact 56 = .ok (.invokevirtual 100, 3) := by decide +kernel
theorem dX8_readsContact_59 : decode cX8_readsContact 59 = .ok (.ifCond .eq 23, 3) := by decide +kernel
theorem dX8_readsContact_62 : decode cX8_readsContact 62 = .ok (.aload_n 0, 1) := by decide +kernel
theorem dX8_readsContact_63 : decode cX8_readsContact 63 = .ok (.getfield 83, 3) := by decide +kernel
theorem dX8_readsContact_66 : decode cX8_readsContact 66 = .ok (.aload_n 0, 1) := by decide +kernel
theorem dX8_readsContact_67 : decode cX8_readsContact 67 = .ok (.getfield 16, 3) := by decide +kernel
theorem dX8_readsContact_70 : decode cX8_readsContact 70 = .ok (.bipush 12, 2) := by decide +kernel
theorem dX8_readsContact_72 : decode cX8_readsContact 72 = .ok (.iload_n 2, 1) := by decide +kernel
theorem dX8_readsContact_73 : decode cX8_readsContact 73 = .ok (.iadd, 1) := by decide +kernel
theorem dX8_readsContact_74 : decode cX8_readsContact 74 = .ok (.iaload, 1) := by decide +kernel
theorem dX8_readsContact_75 : decode cX8_readsContact 75 = .ok (.if_icmp .eq 7, 3) := by decide +kernel
theorem dX8_readsContact_78 : decode cX8_readsContact 78 = .ok (.iconst 1, 1) := by decide +kernel
theorem dX8_readsContact_79 : decode cX8_readsContact 79 = .ok (.goto 4, 3) := by decide +kernel
theorem dX8_readsContact_82 : decode cX8_readsContact 82 = .ok (.iconst 0, 1) := by decide +kernel
theorem dX8_readsContact_83 : decode cX8_readsContact 83 = .ok (.invokevirtual 104, 3) := by decide +kernel
theorem dX8_readsContact_86 : decode cX8_readsContact 86 = .ok (.iastore, 1) := by decide +kernel
theorem dX8_readsContact_87 : decode cX8_readsContact 87 = .ok (.aload_n 0, 1) := by decide +kernel
theorem dX8_readsContact_88 : decode cX8_readsContact 88 = .ok (.getfield 16, 3) := by decide +kernel
theorem dX8_readsContact_91 : decode cX8_readsContact 91 = .ok (.bipush 30, 2) := by decide +kernel
theorem dX8_readsContact_93 : decode cX8_readsContact 93 = .ok (.iload_n 2, 1) := by decide +kernel
theorem dX8_readsContact_94 : decode cX8_readsContact 94 = .ok (.iadd, 1) := by decide +kernel
theorem dX8_readsContact_95 : decode cX8_readsContact 95 = .ok (.iload_n 1, 1) := by decide +kernel
theorem dX8_readsContact_96 : decode cX8_readsContact 96 = .ok (.iconst 2, 1) := by decide +kernel
theorem dX8_readsContact_97 : decode cX8_readsContact 97 = .ok (.if_icmp .ge 16, 3) := by decide +kernel
theorem dX8_readsContact_100 : decode cX8_readsContact 100 = .ok (.aload_n 0, 1) := by decide +kernel
theorem dX8_readsContact_101 : decode cX8_readsContact 101 = .ok (.aload_n 0, 1) := by decide +kernel
theorem dX8_readsContact_102 : decode cX8_readsContact 102 = .ok (.iconst 0, 1) := by decide +kernel
theorem dX8_readsContact_103 : decode cX8_readsContact 103 = .ok (.iconst 3, 1) := by decide +kernel
theorem dX8_readsContact_104 : decode cX8_readsContact 104 = .ok (.invokevirtual 100, 3) := by decide +kernel
theorem dX8_readsContact_107 : decode cX8_readsContact 107 = .ok (.invokevirtual 104, 3) := by decide +kernel
theorem dX8_readsContact_110 : decode cX8_readsContact 110 = .ok (.goto 5, 3) := by decide +kernel
theorem dX8_readsContact_113 : decode cX8_readsContact 113 = .ok (.bipush (-9), 2) := by decide +kernel
theorem dX8_readsContact_115 : decode cX8_readsContact 115 = .ok (.iastore, 1) := by decide +kernel
theorem dX8_readsContact_116 : decode cX8_readsContact 116 = .ok (.aload_n 0, 1) := by decide +kernel
theorem dX8_readsContact_117 : decode cX8_readsContact 117 = .ok (.getfield 16, 3) := by decide +kernel
theorem dX8_readsContact_120 : decode cX8_readsContact 120 = .ok (.iconst 1, 1) := by decide +kernel
theorem dX8_readsContact_121 : decode cX8_readsContact 121 = .ok (.dup2, 1) := by decide +kernel
theorem dX8_readsContact_122 : decode cX8_readsContact 122 = .ok (.iaload, 1) := by decide +kernel
theorem dX8_readsContact_123 : decode cX8_readsContact 123 = .ok (.iconst 1, 1) := by decide +kernel
theorem dX8_readsContact_124 : decode cX8_readsContact 124 = .ok (.iadd, 1) := by decide +kernel
theorem dX8_readsContact_125 : decode cX8_readsContact 125 = .ok (.iastore, 1) := by decide +kernel
theorem dX8_readsContact_126 : decode cX8_readsContact 126 = .ok (.return_, 1) := by decide +kernel
theorem dX8_readsItem_0 : decode cX8_readsItem 0 = .ok (.iload_n 1, 1) := by decide +kernel
theorem dX8_readsItem_1 : decode cX8_readsItem 1 = .ok (.bipush 110, 2) := by decide +kernel
theorem dX8_readsItem_3 : decode cX8_readsItem 3 = .ok (.if_icmp .ne 23, 3) := by decide +kernel
theorem dX8_readsItem_6 : decode cX8_readsItem 6 = .ok (.aload_n 0, 1) := by decide +kernel
theorem dX8_readsItem_7 : decode cX8_readsItem 7 = .ok (.getfield 16, 3) := by decide +kernel
theorem dX8_readsItem_10 : decode cX8_readsItem 10 = .ok (.iconst 0, 1) := by decide +kernel
theorem dX8_readsItem_11 : decode cX8_readsItem 11 = .ok (.aload_n 0, 1) := by decide +kernel
theorem dX8_readsItem_12 : decode cX8_readsItem 12 = .ok (.aload_n 0, 1) := by decide +kernel
theorem dX8_readsItem_13 : decode cX8_readsItem 13 = .ok (.iconst 2, 1) := by decide +kernel
theorem dX8_readsItem_14 : decode cX8_readsItem 14 = .ok (.bipush 7, 2) := by decide +kernel
theorem dX8_readsItem_16 : decode cX8_readsItem 16 = .ok (.invokevirtual 100, 3) := by decide +kernel
theorem dX8_readsItem_19 : decode cX8_readsItem 19 = .ok (.invokevirtual 104, 3) := by decide +kernel
theorem dX8_readsItem_22 : decode cX8_readsItem 22 = .ok (.iastore, 1) := by decide +kernel
theorem dX8_readsItem_23 : decode cX8_readsItem 23 = .ok (.goto 107, 3) := by decide +kernel
theorem dX8_readsItem_26 : decode cX8_readsItem 26 = .ok (.iload_n 1, 1) := by decide +kernel
theorem dX8_readsItem_27 : decode cX8_readsItem 27 = .ok (.bipush 108, 2) := by decide +kernel
theorem dX8_readsItem_29 : decode cX8_readsItem 29 = .ok (.if_icmp .ne 66, 3) := by decide +kernel
theorem dX8_readsItem_32 : decode cX8_readsItem 32 = .ok (.aload_n 0, 1) := by decide +kernel
theorem dX8_readsItem_33 : decode cX8_readsItem 33 = .ok (.getfield 16, 3) := by decide +kernel
theorem dX8_readsItem_36 : decode cX8_readsItem 36 = .ok (.bipush 39, 2) := by decide +kernel
theorem dX8_readsItem_38 : decode cX8_readsItem 38 = .ok (.aload_n 0, 1) := by decide +kernel
theorem dX8_readsItem_39 : decode cX8_readsItem 39 = .ok (.getfield 16, 3) := by decide +kernel
theorem dX8_readsItem_42 : decode cX8_readsItem 42 = .ok (.iconst 2, 1) := by decide +kernel
theorem dX8_readsItem_43 : decode cX8_readsItem 43 = .ok (.iaload, 1) := by decide +kernel
theorem dX8_readsItem_44 : decode cX8_readsItem 44 = .ok (.iadd, 1) := by decide +kernel
theorem dX8_readsItem_45 : decode cX8_readsItem 45 = .ok (.aload_n 0, 1) := by decide +kernel
theorem dX8_readsItem_46 : decode cX8_readsItem 46 = .ok (.aload_n 0, 1) := by decide +kernel
theorem dX8_readsItem_47 : decode cX8_readsItem 47 = .ok (.iconst 0, 1) := by decide +kernel
theorem dX8_readsItem_48 : decode cX8_readsItem 48 = .ok (.aload_n 0, 1) := by decide +kernel
theorem dX8_readsItem_49 : decode cX8_readsItem 49 = .ok (.getfield 16, 3) := by decide +kernel
theorem dX8_readsItem_52 : decode cX8_readsItem 52 = .ok (.iconst 0, 1) := by decide +kernel
theorem dX8_readsItem_53 : decode cX8_readsItem 53 = .ok (.iaload, 1) := by decide +kernel
theorem dX8_readsItem_54 : decode cX8_readsItem 54 = .ok (.iconst 1, 1) := by decide +kernel
theorem dX8_readsItem_55 : decode cX8_readsItem 55 = .ok (.isub, 1) := by decide +kernel
theorem dX8_readsItem_56 : decode cX8_readsItem 56 = .ok (.invokevirtual 100, 3) := by decide +kernel
theorem dX8_readsItem_59 : decode cX8_readsItem 59 = .ok (.ifCond .eq 18, 3) := by decide +kernel
theorem dX8_readsItem_62 : decode cX8_readsItem 62 = .ok (.aload_n 0, 1) := by decide +kernel
theorem dX8_readsItem_63 : decode cX8_readsItem 63 = .ok (.aload_n 0, 1) := by decide +kernel
theorem dX8_readsItem_64 : decode cX8_readsItem 64 = .ok (.getfield 83, 3) := by decide +kernel
theorem dX8_readsItem_67 : decode cX8_readsItem 67 = .ok (.invokevirtual 108, 3) := by decide +kernel
theorem dX8_readsItem_70 : decode cX8_readsItem 70 = .ok (.ifCond .eq 7, 3) := by decide +kernel
theorem dX8_readsItem_73 : decode cX8_readsItem 73 = .ok (.iconst 1, 1) := by decide +kernel
theorem dX8_readsItem_74 : decode cX8_readsItem 74 = .ok (.goto 4, 3) := by decide +kernel
theorem dX8_readsItem_77 : decode cX8_readsItem 77 = .ok (.iconst 0, 1) := by decide +kernel
theorem dX8_readsItem_78 : decode cX8_readsItem 78 = .ok (.invokevirtual 104, 3) := by decide +kernel
theorem dX8_readsItem_81 : decode cX8_readsItem 81 = .ok (.iastore, 1) := by decide +kernel
theorem dX8_readsItem_82 : decode cX8_readsItem 82 = .ok (.aload_n 0, 1) := by decide +kernel
theorem dX8_readsItem_83 : decode cX8_readsItem 83 = .ok (.getfield 16, 3) := by decide +kernel
theorem dX8_readsItem_86 : decode cX8_readsItem 86 = .ok (.iconst 2, 1) := by decide +kernel
theorem dX8_readsItem_87 : decode cX8_readsItem 87 = .ok (.dup2, 1) := by decide +kernel
theorem dX8_readsItem_88 : decode cX8_readsItem 88 = .ok (.iaload, 1) := by decide +kernel
theorem dX8_readsItem_89 : decode cX8_readsItem 89 = .ok (.iconst 1, 1) := by decide +kernel
theorem dX8_readsItem_90 : decode cX8_readsItem 90 = .ok (.iadd, 1) := by decide +kernel
theorem dX8_readsItem_91 : decode cX8_readsItem 91 = .ok (.iastore, 1) := by decide +kernel
theorem dX8_readsItem_92 : decode cX8_readsItem 92 = .ok (.goto 38, 3) := by decide +kernel
theorem dX8_readsItem_95 : decode cX8_readsItem 95 = .ok (.aload_n 0, 1) := by decide +kernel
theorem dX8_readsItem_96 : decode cX8_readsItem 96 = .ok (.iload_n 1, 1) := by decide +kernel
theorem dX8_readsItem_97 : decode cX8_readsItem 97 = .ok (.bipush 111, 2) := by decide +kernel
theorem dX8_readsItem_99 : decode cX8_readsItem 99 = .ok (.if_icmp .ne 7, 3) := by decide +kernel
theorem dX8_readsItem_102 : decode cX8_readsItem 102 = .ok (.iconst 0, 1) := by decide +kernel
theorem dX8_readsItem_103 : decode cX8_readsItem 103 = .ok (.goto 24, 3) := by decide +kernel
theorem dX8_readsItem_106 : decode cX8_readsItem 106 = .ok (.iload_n 1, 1) := by decide +kernel
theorem dX8_readsItem_107 : decode cX8_readsItem 107 = .ok (.bipush 99, 2) := by decide +kernel
theorem dX8_readsItem_109 : decode cX8_readsItem 109 = .ok (.if_icmp .ne 7, 3) := by decide +kernel
theorem dX8_readsItem_112 : decode cX8_readsItem 112 = .ok (.iconst 1, 1) := by decide +kernel
theorem dX8_readsItem_113 : decode cX8_readsItem 113 = .ok (.goto 14, 3) := by decide +kernel
theorem dX8_readsItem_116 : decode cX8_readsItem 116 = .ok (.iload_n 1, 1) := by decide +kernel
theorem dX8_readsItem_117 : decode cX8_readsItem 117 = .ok (.bipush 119, 2) := by decide +kernel
theorem dX8_readsItem_119 : decode cX8_readsItem 119 = .ok (.if_icmp .ne 7, 3) := by decide +kernel
theorem dX8_readsItem_122 : decode cX8_readsItem 122 = .ok (.iconst 2, 1) := by decide +kernel
theorem dX8_readsItem_123 : decode cX8_readsItem 123 = .ok (.goto 4, 3) := by decide +kernel
theorem dX8_readsItem_126 : decode cX8_readsItem 126 = .ok (.iconst 3, 1) := by decide +kernel
theorem dX8_readsItem_127 : decode cX8_readsItem 127 = .ok (.invokevirtual 111, 3) := by decide +kernel
theorem dX8_readsItem_130 : decode cX8_readsItem 130 = .ok (.return_, 1) := by decide +kernel
theorem dX8_mayBegin_0 : decode cX8_mayBegin 0 = .ok (.aload_n 0, 1) := by decide +kernel
theorem dX8_mayBegin_1 : decode cX8_mayBegin 1 = .ok (.getfield 83, 3) := by decide +kernel
theorem dX8_mayBegin_4 : decode cX8_mayBegin 4 = .ok (.bipush 110, 2) := by decide +kernel
theorem dX8_mayBegin_6 : decode cX8_mayBegin 6 = .ok (.if_icmp .ne 15, 3) := by decide +kernel
theorem dX8_mayBegin_9 : decode cX8_mayBegin 9 = .ok (.iload_n 1, 1) := by decide +kernel
theorem dX8_mayBegin_10 : decode cX8_mayBegin 10 = .ok (.ifCond .ne 7, 3) := by decide +kernel
theorem dX8_mayBegin_13 : decode cX8_mayBegin 13 = .ok (.iconst 1, 1) := by decide +kernel
theorem dX8_mayBegin_14 : decode cX8_mayBegin 14 = .ok (.goto 50, 3) := by decide +kernel
theorem dX8_mayBegin_17 : decode cX8_mayBegin 17 = .ok (.iconst 0, 1) := by decide +kernel
theorem dX8_mayBegin_18 : decode cX8_mayBegin 18 = .ok (.goto 46, 3) := by decide +kernel
theorem dX8_mayBegin_21 : decode cX8_mayBegin 21 = .ok (.aload_n 0, 1) := by decide +kernel
theorem dX8_mayBegin_22 : decode cX8_mayBegin 22 = .ok (.getfield 83, 3) := by decide +kernel
theorem dX8_mayBegin_25 : decode cX8_mayBegin 25 = .ok (.bipush 108, 2) := by decide +kernel
theorem dX8_mayBegin_27 : decode cX8_mayBegin 27 = .ok (.if_icmp .ne 21, 3) := by decide +kernel
theorem dX8_mayBegin_30 : decode cX8_mayBegin 30 = .ok (.aload_n 0, 1) := by decide +kernel
theorem dX8_mayBegin_31 : decode cX8_mayBegin 31 = .ok (.getfield 16, 3) := by decide +kernel
theorem dX8_mayBegin_34 : decode cX8_mayBegin 34 = .ok (.iconst 2, 1) := by decide +kernel
theorem dX8_mayBegin_35 : decode cX8_mayBegin 35 = .ok (.iaload, 1) := by decide +kernel
theorem dX8_mayBegin_36 : decode cX8_mayBegin 36 = .ok (.iconst 3, 1) := by decide +kernel
theorem dX8_mayBegin_37 : decode cX8_mayBegin 37 = .ok (.if_icmp .ge 7, 3) := by decide +kernel
theorem dX8_mayBegin_40 : decode cX8_mayBegin 40 = .ok (.iconst 1, 1) := by decide +kernel
theorem dX8_mayBegin_41 : decode cX8_mayBegin 41 = .ok (.goto 23, 3) := by decide +kernel
theorem dX8_mayBegin_44 : decode cX8_mayBegin 44 = .ok (.iconst 0, 1) := by decide +kernel
theorem dX8_mayBegin_45 : decode cX8_mayBegin 45 = .ok (.goto 19, 3) := by decide +kernel
theorem dX8_mayBegin_48 : decode cX8_mayBegin 48 = .ok (.aload_n 0, 1) := by decide +kernel
theorem dX8_mayBegin_49 : decode cX8_mayBegin 49 = .ok (.getfield 16, 3) := by decide +kernel
theorem dX8_mayBegin_52 : decode cX8_mayBegin 52 = .ok (.iconst 1, 1) := by decide +kernel
theorem dX8_mayBegin_53 : decode cX8_mayBegin 53 = .ok (.iaload, 1) := by decide +kernel
theorem dX8_mayBegin_54 : decode cX8_mayBegin 54 = .ok (.bipush 9, 2) := by decide +kernel
theorem dX8_mayBegin_56 : decode cX8_mayBegin 56 = .ok (.if_icmp .ge 7, 3) := by decide +kernel
theorem dX8_mayBegin_59 : decode cX8_mayBegin 59 = .ok (.iconst 1, 1) := by decide +kernel
theorem dX8_mayBegin_60 : decode cX8_mayBegin 60 = .ok (.goto 4, 3) := by decide +kernel
theorem dX8_mayBegin_63 : decode cX8_mayBegin 63 = .ok (.iconst 0, 1) := by decide +kernel
theorem dX8_mayBegin_64 : decode cX8_mayBegin 64 = .ok (.ireturn, 1) := by decide +kernel
theorem dX8_net_0 : decode cX8_net 0 = .ok (.aload_n 0, 1) := by decide +kernel
theorem dX8_net_1 : decode cX8_net 1 = .ok (.iconst 0, 1) := by decide +kernel
theorem dX8_net_2 : decode cX8_net 2 = .ok (.putfield 59, 3) := by decide +kernel
theorem dX8_net_5 : decode cX8_net 5 = .ok (.aload_n 0, 1) := by decide +kernel
theorem dX8_net_6 : decode cX8_net 6 = .ok (.iconst (-1), 1) := by decide +kernel
theorem dX8_net_7 : decode cX8_net 7 = .ok (.putfield 90, 3) := by decide +kernel
theorem dX8_net_10 : decode cX8_net 10 = .ok (.aload_n 0, 1) := by decide +kernel
theorem dX8_net_11 : decode cX8_net 11 = .ok (.iconst 0, 1) := by decide +kernel
theorem dX8_net_12 : decode cX8_net 12 = .ok (.putfield 70, 3) := by decide +kernel
theorem dX8_net_15 : decode cX8_net 15 = .ok (.aload_n 0, 1) := by decide +kernel
theorem dX8_net_16 : decode cX8_net 16 = .ok (.invokevirtual 53, 3) := by decide +kernel
theorem dX8_net_19 : decode cX8_net 19 = .ok (.iconst 0, 1) := by decide +kernel
theorem dX8_net_20 : decode cX8_net 20 = .ok (.istore_n 1, 1) := by decide +kernel
theorem dX8_net_21 : decode cX8_net 21 = .ok (.aload_n 0, 1) := by decide +kernel
theorem dX8_net_22 : decode cX8_net 22 = .ok (.invokevirtual 97, 3) := by decide +kernel
theorem dX8_net_25 : decode cX8_net 25 = .ok (.aload_n 0, 1) := by decide +kernel
theorem dX8_net_26 : decode cX8_net 26 = .ok (.invokevirtual 93, 3) := by decide +kernel
theorem dX8_net_29 : decode cX8_net 29 = .ok (.ifCond .eq 72, 3) := by decide +kernel
theorem dX8_net_32 : decode cX8_net 32 = .ok (.aload_n 0, 1) := by decide +kernel
theorem dX8_net_33 : decode cX8_net 33 = .ok (.getfield 80, 3) := by decide +kernel
theorem dX8_net_36 : decode cX8_net 36 = .ok (.ifCond .eq 65, 3) := by decide +kernel
theorem dX8_net_39 : decode cX8_net 39 = .ok (.aload_n 0, 1) := by decide +kernel
theorem dX8_net_40 : decode cX8_net 40 = .ok (.aload_n 0, 1) := by decide +kernel
theorem dX8_net_41 : decode cX8_net 41 = .ok (.getfield 80, 3) := by decide +kernel
theorem dX8_net_44 : decode cX8_net 44 = .ok (.iconst 1, 1) := by decide +kernel
theorem dX8_net_45 : decode cX8_net 45 = .ok (.if_icmp .ne 15, 3) := by decide +kernel
theorem dX8_net_48 : decode cX8_net 48 = .ok (.aload_n 0, 1) := by decide +kernel
theorem dX8_net_49 : decode cX8_net 49 = .ok (.iload_n 1, 1) := by decide +kernel
theorem dX8_net_50 : decode cX8_net 50 = .ok (.invokevirtual 115, 3) := by decide +kernel
theorem dX8_net_53 : decode cX8_net 53 = .ok (.ifCond .eq 7, 3) := by decide +kernel
theorem dX8_net_56 : decode cX8_net 56 = .ok (.iconst 1, 1) := by decide +kernel
theorem dX8_net_57 : decode cX8_net 57 = .ok (.goto 4, 3) := by decide +kernel
theorem dX8_net_60 : decode cX8_net 60 = .ok (.iconst 0, 1) := by decide +kernel
theorem dX8_net_61 : decode cX8_net 61 = .ok (.invokevirtual 104, 3) := by decide +kernel
theorem dX8_net_64 : decode cX8_net 64 = .ok (.istore_n 2, 1) := by decide +kernel
theorem dX8_net_65 : decode cX8_net 65 = .ok (.aload_n 0, 1) := by decide +kernel
theorem dX8_net_66 : decode cX8_net 66 = .ok (.invokevirtual 93, 3) := by decide +kernel
theorem dX8_net_69 : decode cX8_net 69 = .ok (.ifCond .eq 8, 3) := by decide +kernel
theorem dX8_net_72 : decode cX8_net 72 = .ok (.aload_n 0, 1) := by decide +kernel
theorem dX8_net_73 : decode cX8_net 73 = .ok (.iload_n 2, 1) := by decide +kernel
theorem dX8_net_74 : decode cX8_net 74 = .ok (.invokevirtual 118, 3) := by decide +kernel
theorem dX8_net_77 : decode cX8_net 77 = .ok (.aload_n 0, 1) := by decide +kernel
theorem dX8_net_78 : decode cX8_net 78 = .ok (.aload_n 0, 1) := by decide +kernel
theorem dX8_net_79 : decode cX8_net 79 = .ok (.getfield 80, 3) := by decide +kernel
theorem dX8_net_82 : decode cX8_net 82 = .ok (.iconst 3, 1) := by decide +kernel
theorem dX8_net_83 : decode cX8_net 83 = .ok (.if_icmp .ne 7, 3) := by decide +kernel
theorem dX8_net_86 : decode cX8_net 86 = .ok (.iconst 1, 1) := by decide +kernel
theorem dX8_net_87 : decode cX8_net 87 = .ok (.goto 4, 3) := by decide +kernel
theorem dX8_net_90 : decode cX8_net 90 = .ok (.iconst 0, 1) := by decide +kernel
theorem dX8_net_91 : decode cX8_net 91 = .ok (.invokevirtual 104, 3) := by decide +kernel
theorem dX8_net_94 : decode cX8_net 94 = .ok (.pop, 1) := by decide +kernel
theorem dX8_net_95 : decode cX8_net 95 = .ok (.iinc 1 1, 3) := by decide +kernel
theorem dX8_net_98 : decode cX8_net 98 = .ok (.goto (-73), 3) := by decide +kernel
theorem dX8_net_101 : decode cX8_net 101 = .ok (.aload_n 0, 1) := by decide +kernel
theorem dX8_net_102 : decode cX8_net 102 = .ok (.invokevirtual 93, 3) := by decide +kernel
theorem dX8_net_105 : decode cX8_net 105 = .ok (.ifCond .ne 11, 3) := by decide +kernel
theorem dX8_net_108 : decode cX8_net 108 = .ok (.bipush (-10), 2) := by decide +kernel
theorem dX8_net_110 : decode cX8_net 110 = .ok (.aload_n 0, 1) := by decide +kernel
theorem dX8_net_111 : decode cX8_net 111 = .ok (.getfield 90, 3) := by decide +kernel
theorem dX8_net_114 : decode cX8_net 114 = .ok (.isub, 1) := by decide +kernel
theorem dX8_net_115 : decode cX8_net 115 = .ok (.ireturn, 1) := by decide +kernel
theorem dX8_net_116 : decode cX8_net 116 = .ok (.aload_n 0, 1) := by decide +kernel
theorem dX8_net_117 : decode cX8_net 117 = .ok (.invokevirtual 56, 3) := by decide +kernel
theorem dX8_net_120 : decode cX8_net 120 = .ok (.iload_n 1, 1) := by decide +kernel
theorem dX8_net_121 : decode cX8_net 121 = .ok (.ireturn, 1) := by decide +kernel
theorem dX8_settles_0 : decode cX8_settles 0 = .ok (.iconst 0, 1) := by decide +kernel
theorem dX8_settles_1 : decode cX8_settles 1 = .ok (.istore_n 1, 1) := by decide +kernel
theorem dX8_settles_2 : decode cX8_settles 2 = .ok (.iload_n 1, 1) := by decide +kernel
theorem dX8_settles_3 : decode cX8_settles 3 = .ok (.bipush 42, 2) := by decide +kernel
theorem dX8_settles_5 : decode cX8_settles 5 = .ok (.if_icmp .ge 21, 3) := by decide +kernel
theorem dX8_settles_8 : decode cX8_settles 8 = .ok (.aload_n 0, 1) := by decide +kernel
theorem dX8_settles_9 : decode cX8_settles 9 = .ok (.getfield 13, 3) := by decide +kernel
theorem dX8_settles_12 : decode cX8_settles 12 = .ok (.iload_n 1, 1) := by decide +kernel
theorem dX8_settles_13 : decode cX8_settles 13 = .ok (.aload_n 0, 1) := by decide +kernel
theorem dX8_settles_14 : decode cX8_settles 14 = .ok (.getfield 16, 3) := by decide +kernel
theorem dX8_settles_17 : decode cX8_settles 17 = .ok (.iload_n 1, 1) := by decide +kernel
theorem dX8_settles_18 : decode cX8_settles 18 = .ok (.iaload, 1) := by decide +kernel
theorem dX8_settles_19 : decode cX8_settles 19 = .ok (.iastore, 1) := by decide +kernel
theorem dX8_settles_20 : decode cX8_settles 20 = .ok (.iinc 1 1, 3) := by decide +kernel
theorem dX8_settles_23 : decode cX8_settles 23 = .ok (.goto (-21), 3) := by decide +kernel
theorem dX8_settles_26 : decode cX8_settles 26 = .ok (.iconst 0, 1) := by decide +kernel
theorem dX8_settles_27 : decode cX8_settles 27 = .ok (.istore_n 1, 1) := by decide +kernel
theorem dX8_settles_28 : decode cX8_settles 28 = .ok (.iload_n 1, 1) := by decide +kernel
theorem dX8_settles_29 : decode cX8_settles 29 = .ok (.bipush 30, 2) := by decide +kernel
theorem dX8_settles_31 : decode cX8_settles 31 = .ok (.if_icmp .ge 31, 3) := by decide +kernel
theorem dX8_settles_34 : decode cX8_settles 34 = .ok (.aload_n 0, 1) := by decide +kernel
theorem dX8_settles_35 : decode cX8_settles 35 = .ok (.getfield 19, 3) := by decide +kernel
theorem dX8_settles_38 : decode cX8_settles 38 = .ok (.iload_n 1, 1) := by decide +kernel
theorem dX8_settles_39 : decode cX8_settles 39 = .ok (.iload_n 1, 1) := by decide +kernel
theorem dX8_settles_40 : decode cX8_settles 40 = .ok (.iconst 3, 1) := by decide +kernel
theorem dX8_settles_41 : decode cX8_settles 41 = .ok (.if_icmp .lt 13, 3) := by decide +kernel
theorem dX8_settles_44 : decode cX8_settles 44 = .ok (.iload_n 1, 1) := by decide +kernel
theorem dX8_settles_45 : decode cX8_settles 45 = .ok (.bipush 12, 2) := by decide +kernel
theorem dX8_settles_47 : decode cX8_settles 47 = .ok (.if_icmp .ge 7, 3) := by decide +kernel
theorem dX8_settles_50 : decode cX8_settles 50 = .ok (.iconst 4, 1) := by decide +kernel
theorem dX8_settles_51 : decode cX8_settles 51 = .ok (.goto 4, 3) := by decide +kernel
theorem dX8_settles_54 : decode cX8_settles 54 = .ok (.iconst 0, 1) := by decide +kernel
theorem dX8_settles_55 : decode cX8_settles 55 = .ok (.iastore, 1) := by decide +kernel
theorem dX8_settles_56 : decode cX8_settles 56 = .ok (.iinc 1 1, 3) := by decide +kernel
theorem dX8_settles_59 : decode cX8_settles 59 = .ok (.goto (-31), 3) := by decide +kernel
theorem dX8_settles_62 : decode cX8_settles 62 = .ok (.iconst 0, 1) := by decide +kernel
theorem dX8_settles_63 : decode cX8_settles 63 = .ok (.istore_n 1, 1) := by decide +kernel
theorem dX8_settles_64 : decode cX8_settles 64 = .ok (.iload_n 1, 1) := by decide +kernel
theorem dX8_settles_65 : decode cX8_settles 65 = .ok (.aload_n 0, 1) := by decide +kernel
theorem dX8_settles_66 : decode cX8_settles 66 = .ok (.getfield 13, 3) := by decide +kernel
theorem dX8_settles_69 : decode cX8_settles 69 = .ok (.iconst 2, 1) := by decide +kernel
theorem dX8_settles_70 : decode cX8_settles 70 = .ok (.iaload, 1) := by decide +kernel
theorem dX8_settles_71 : decode cX8_settles 71 = .ok (.if_icmp .ge 22, 3) := by decide +kernel
theorem dX8_settles_74 : decode cX8_settles 74 = .ok (.aload_n 0, 1) := by decide +kernel
theorem dX8_settles_75 : decode cX8_settles 75 = .ok (.getfield 19, 3) := by decide +kernel
theorem dX8_settles_78 : decode cX8_settles 78 = .ok (.iconst 0, 1) := by decide +kernel
theorem dX8_settles_79 : decode cX8_settles 79 = .ok (.iload_n 1, 1) := by decide +kernel
theorem dX8_settles_80 : decode cX8_settles 80 = .ok (.iadd, 1) := by decide +kernel
theorem dX8_settles_81 : decode cX8_settles 81 = .ok (.aload_n 0, 1) := by decide +kernel
theorem dX8_settles_82 : decode cX8_settles 82 = .ok (.iload_n 1, 1) := by decide +kernel
theorem dX8_settles_83 : decode cX8_settles 83 = .ok (.invokevirtual 121, 3) := by decide +kernel
theorem dX8_settles_86 : decode cX8_settles 86 = .ok (.iastore, 1) := by decide +kernel
theorem dX8_settles_87 : decode cX8_settles 87 = .ok (.iinc 1 1, 3) := by decide +kernel
theorem dX8_settles_90 : decode cX8_settles 90 = .ok (.goto (-26), 3) := by decide +kernel
theorem dX8_settles_93 : decode cX8_settles 93 = .ok (.aload_n 0, 1) := by decide +kernel
theorem dX8_settles_94 : decode cX8_settles 94 = .ok (.iconst 0, 1) := by decide +kernel
theorem dX8_settles_95 : decode cX8_settles 95 = .ok (.putfield 67, 3) := by decide +kernel
theorem dX8_settles_98 : decode cX8_settles 98 = .ok (.aload_n 0, 1) := by decide +kernel
theorem dX8_settles_99 : decode cX8_settles 99 = .ok (.iconst 0, 1) := by decide +kernel
theorem dX8_settles_100 : decode cX8_settles 100 = .ok (.putfield 124, 3) := by decide +kernel
theorem dX8_settles_103 : decode cX8_settles 103 = .ok (.aload_n 0, 1) := by decide +kernel
theorem dX8_settles_104 : decode cX8_settles 104 = .ok (.iconst 0, 1) := by decide +kernel
theorem dX8_settles_105 : decode cX8_settles 105 = .ok (.putfield 127, 3) := by decide +kernel
theorem dX8_settles_108 : decode cX8_settles 108 = .ok (.aload_n 0, 1) := by decide +kernel
theorem dX8_settles_109 : decode cX8_settles 109 = .ok (.getfield 28, 3) := by decide +kernel
theorem dX8_settles_112 : decode cX8_settles 112 = .ok (.iconst 0, 1) := by decide +kernel
theorem dX8_settles_113 : decode cX8_settles 113 = .ok (.iconst 0, 1) := by decide +kernel
theorem dX8_settles_114 : decode cX8_settles 114 = .ok (.bastore, 1) := by decide +kernel
theorem dX8_settles_115 : decode cX8_settles 115 = .ok (.aload_n 0, 1) := by decide +kernel
theorem dX8_settles_116 : decode cX8_settles 116 = .ok (.getfield 28, 3) := by decide +kernel
theorem dX8_settles_119 : decode cX8_settles 119 = .ok (.iconst 1, 1) := by decide +kernel
theorem dX8_settles_120 : decode cX8_settles 120 = .ok (.iconst 0, 1) := by decide +kernel
theorem dX8_settles_121 : decode cX8_settles 121 = .ok (.bastore, 1) := by decide +kernel
theorem dX8_settles_122 : decode cX8_settles 122 = .ok (.return_, 1) := by decide +kernel
theorem dX8_isContact_0 : decode cX8_isContact 0 = .ok (.iload_n 1, 1) := by decide +kernel
theorem dX8_isContact_1 : decode cX8_isContact 1 = .ok (.iconst 0, 1) := by decide +kernel
theorem dX8_isContact_2 : decode cX8_isContact 2 = .ok (.aload_n 0, 1) := by decide +kernel
theorem dX8_isContact_3 : decode cX8_isContact 3 = .ok (.getfield 13, 3) := by decide +kernel
theorem dX8_isContact_6 : decode cX8_isContact 6 = .ok (.iconst 1, 1) := by decide +kernel
theorem dX8_isContact_7 : decode cX8_isContact 7 = .ok (.iaload, 1) := by decide +kernel
theorem dX8_isContact_8 : decode cX8_isContact 8 = .ok (.iconst 1, 1) := by decide +kernel
theorem dX8_isContact_9 : decode cX8_isContact 9 = .ok (.isub, 1) := by decide +kernel
theorem dX8_isContact_10 : decode cX8_isContact 10 = .ok (.invokestatic 63, 3) := by decide +kernel
theorem dX8_isContact_13 : decode cX8_isContact 13 = .ok (.ireturn, 1) := by decide +kernel
theorem dX8_isLoad_0 : decode cX8_isLoad 0 = .ok (.iload_n 1, 1) := by decide +kernel
theorem dX8_isLoad_1 : decode cX8_isLoad 1 = .ok (.iconst 0, 1) := by decide +kernel
theorem dX8_isLoad_2 : decode cX8_isLoad 2 = .ok (.aload_n 0, 1) := by decide +kernel
theorem dX8_isLoad_3 : decode cX8_isLoad 3 = .ok (.getfield 13, 3) := by decide +kernel
theorem dX8_isLoad_6 : decode cX8_isLoad 6 = .ok (.iconst 2, 1) := by decide +kernel
theorem dX8_isLoad_7 : decode cX8_isLoad 7 = .ok (.iaload, 1) := by decide +kernel
theorem dX8_isLoad_8 : decode cX8_isLoad 8 = .ok (.iconst 1, 1) := by decide +kernel
theorem dX8_isLoad_9 : decode cX8_isLoad 9 = .ok (.isub, 1) := by decide +kernel
theorem dX8_isLoad_10 : decode cX8_isLoad 10 = .ok (.invokestatic 63, 3) := by decide +kernel
theorem dX8_isLoad_13 : decode cX8_isLoad 13 = .ok (.ireturn, 1) := by decide +kernel
theorem dX8_isState_0 : decode cX8_isState 0 = .ok (.iload_n 0, 1) := by decide +kernel
theorem dX8_isState_1 : decode cX8_isState 1 = .ok (.iconst 0, 1) := by decide +kernel
theorem dX8_isState_2 : decode cX8_isState 2 = .ok (.bipush 15, 2) := by decide +kernel
theorem dX8_isState_4 : decode cX8_isState 4 = .ok (.invokestatic 63, 3) := by decide +kernel
theorem dX8_isState_7 : decode cX8_isState 7 = .ok (.ireturn, 1) := by decide +kernel
theorem dX8_isShut_0 : decode cX8_isShut 0 = .ok (.aload_n 0, 1) := by decide +kernel
theorem dX8_isShut_1 : decode cX8_isShut 1 = .ok (.getfield 19, 3) := by decide +kernel
theorem dX8_isShut_4 : decode cX8_isShut 4 = .ok (.bipush 21, 2) := by decide +kernel
theorem dX8_isShut_6 : decode cX8_isShut 6 = .ok (.iload_n 1, 1) := by decide +kernel
theorem dX8_isShut_7 : decode cX8_isShut 7 = .ok (.iadd, 1) := by decide +kernel
theorem dX8_isShut_8 : decode cX8_isShut 8 = .ok (.iaload, 1) := by decide +kernel
theorem dX8_isShut_9 : decode cX8_isShut 9 = .ok (.ifCond .eq 22, 3) := by decide +kernel
theorem dX8_isShut_12 : decode cX8_isShut 12 = .ok (.aload_n 0, 1) := by decide +kernel
theorem dX8_isShut_13 : decode cX8_isShut 13 = .ok (.getfield 19, 3) := by decide +kernel
theorem dX8_isShut_16 : decode cX8_isShut 16 = .ok (.bipush 21, 2) := by decide +kernel
theorem dX8_isShut_18 : decode cX8_isShut 18 = .ok (.iload_n 1, 1) := by decide +kernel
theorem dX8_isShut_19 : decode cX8_isShut 19 = .ok (.iadd, 1) := by decide +kernel
theorem dX8_isShut_20 : decode cX8_isShut 20 = .ok (.iaload, 1) := by decide +kernel
theorem dX8_isShut_21 : decode cX8_isShut 21 = .ok (.iconst 2, 1) := by decide +kernel
theorem dX8_isShut_22 : decode cX8_isShut 22 = .ok (.if_icmp .ne 7, 3) := by decide +kernel
theorem dX8_isShut_25 : decode cX8_isShut 25 = .ok (.iconst 1, 1) := by decide +kernel
theorem dX8_isShut_26 : decode cX8_isShut 26 = .ok (.goto 4, 3) := by decide +kernel
theorem dX8_isShut_29 : decode cX8_isShut 29 = .ok (.iconst 0, 1) := by decide +kernel
theorem dX8_isShut_30 : decode cX8_isShut 30 = .ok (.ireturn, 1) := by decide +kernel
theorem dX8_isShut_31 : decode cX8_isShut 31 = .ok (.aload_n 0, 1) := by decide +kernel
theorem dX8_isShut_32 : decode cX8_isShut 32 = .ok (.getfield 13, 3) := by decide +kernel
theorem dX8_isShut_35 : decode cX8_isShut 35 = .ok (.iconst 3, 1) := by decide +kernel
theorem dX8_isShut_36 : decode cX8_isShut 36 = .ok (.iload_n 1, 1) := by decide +kernel
theorem dX8_isShut_37 : decode cX8_isShut 37 = .ok (.iadd, 1) := by decide +kernel
theorem dX8_isShut_38 : decode cX8_isShut 38 = .ok (.iaload, 1) := by decide +kernel
theorem dX8_isShut_39 : decode cX8_isShut 39 = .ok (.istore_n 3, 1) := by decide +kernel
theorem dX8_isShut_40 : decode cX8_isShut 40 = .ok (.iload_n 3, 1) := by decide +kernel
theorem dX8_isShut_41 : decode cX8_isShut 41 = .ok (.ifCond .ne 19, 3) := by decide +kernel
theorem dX8_isShut_44 : decode cX8_isShut 44 = .ok (.iload_n 2, 1) := by decide +kernel
theorem dX8_isShut_45 : decode cX8_isShut 45 = .ok (.aload_n 0, 1) := by decide +kernel
theorem dX8_isShut_46 : decode cX8_isShut 46 = .ok (.getfield 13, 3) := by decide +kernel
theorem dX8_isShut_49 : decode cX8_isShut 49 = .ok (.bipush 30, 2) := by decide +kernel
theorem dX8_isShut_51 : decode cX8_isShut 51 = .ok (.iload_n 1, 1) := by decide +kernel
theorem dX8_isShut_52 : decode cX8_isShut 52 = .ok (.iadd, 1) := by decide +kernel
theorem dX8_isShut_53 : decode cX8_isShut 53 = .ok (.iaload, 1) := by decide +kernel
theorem dX8_isShut_54 : decode cX8_isShut 54 = .ok (.invokestatic 130, 3) := by decide +kernel
theorem dX8_isShut_57 : decode cX8_isShut 57 = .ok (.goto 29, 3) := by decide +kernel
theorem dX8_isShut_60 : decode cX8_isShut 60 = .ok (.iload_n 3, 1) := by decide +kernel
theorem dX8_isShut_61 : decode cX8_isShut 61 = .ok (.iconst 1, 1) := by decide +kernel
theorem dX8_isShut_62 : decode cX8_isShut 62 = .ok (.if_icmp .ne 19, 3) := by decide +kernel
theorem dX8_isShut_65 : decode cX8_isShut 65 = .ok (.iload_n 2, 1) := by decide +kernel
theorem dX8_isShut_66 : decode cX8_isShut 66 = .ok (.aload_n 0, 1) := by decide +kernel
theorem dX8_isShut_67 : decode cX8_isShut 67 = .ok (.getfield 13, 3) := by decide +kernel
theorem dX8_isShut_70 : decode cX8_isShut 70 = .ok (.bipush 30, 2) := by decide +kernel
theorem dX8_isShut_72 : decode cX8_isShut 72 = .ok (.iload_n 1, 1) := by decide +kernel
theorem dX8_isShut_73 : decode cX8_isShut 73 = .ok (.iadd, 1) := by decide +kernel
theorem dX8_isShut_74 : decode cX8_isShut 74 = .ok (.iaload, 1) := by decide +kernel
theorem dX8_isShut_75 : decode cX8_isShut 75 = .ok (.invokestatic 130, 3) := by decide +kernel
theorem dX8_isShut_78 : decode cX8_isShut 78 = .ok (.ifCond .ne 7, 3) := by decide +kernel
theorem dX8_isShut_81 : decode cX8_isShut 81 = .ok (.iconst 1, 1) := by decide +kernel
theorem dX8_isShut_82 : decode cX8_isShut 82 = .ok (.goto 4, 3) := by decide +kernel
theorem dX8_isShut_85 : decode cX8_isShut 85 = .ok (.iconst 0, 1) := by decide +kernel
theorem dX8_isShut_86 : decode cX8_isShut 86 = .ok (.istore 4, 2) := by decide +kernel
theorem dX8_isShut_88 : decode cX8_isShut 88 = .ok (.aload_n 0, 1) := by decide +kernel
theorem dX8_isShut_89 : decode cX8_isShut 89 = .ok (.getfield 19, 3) := by decide +kernel
theorem dX8_isShut_92 : decode cX8_isShut 92 = .ok (.iconst 3, 1) := by decide +kernel
theorem dX8_isShut_93 : decode cX8_isShut 93 = .ok (.iload_n 1, 1) := by decide +kernel
theorem dX8_isShut_94 : decode cX8_isShut 94 = .ok (.iadd, 1) := by decide +kernel
theorem dX8_isShut_95 : decode cX8_isShut 95 = .ok (.iaload, 1) := by decide +kernel
theorem dX8_isShut_96 : decode cX8_isShut 96 = .ok (.istore 5, 2) := by decide +kernel
theorem dX8_isShut_98 : decode cX8_isShut 98 = .ok (.iload 4, 2) := by decide +kernel
theorem dX8_isShut_100 : decode cX8_isShut 100 = .ok (.ifCond .eq 39, 3) := by decide +kernel
theorem dX8_isShut_103 : decode cX8_isShut 103 = .ok (.iload 5, 2) := by decide +kernel
theorem dX8_isShut_105 : decode cX8_isShut 105 = .ok (.iconst 1, 1) := by decide +kernel
theorem dX8_isShut_106 : decode cX8_isShut 106 = .ok (.if_icmp .gt 29, 3) := by decide +kernel
theorem dX8_isShut_109 : decode cX8_isShut 109 = .ok (.iload_n 2, 1) := by decide +kernel
theorem dX8_isShut_110 : decode cX8_isShut 110 = .ok (.aload_n 0, 1) := by decide +kernel
theorem dX8_isShut_111 : decode cX8_isShut 111 = .ok (.getfield 19, 3) := by decide +kernel
theorem dX8_isShut_114 : decode cX8_isShut 114 = .ok (.bipush 12, 2) := by decide +kernel
theorem dX8_isShut_116 : decode cX8_isShut 116 = .ok (.iload_n 1, 1) := by decide +kernel
theorem dX8_isShut_117 : decode cX8_isShut 117 = .ok (.iadd, 1) := by decide +kernel
theorem dX8_isShut_118 : decode cX8_isShut 118 = .ok (.iaload, 1) := by decide +kernel
theorem dX8_isShut_119 : decode cX8_isShut 119 = .ok (.invokestatic 130, 3) := by decide +kernel
theorem dX8_isShut_122 : decode cX8_isShut 122 = .ok (.iload 5, 2) := by decide +kernel
theorem dX8_isShut_124 : decode cX8_isShut 124 = .ok (.ifCond .ne 7, 3) := by decide +kernel
theorem dX8_isShut_127 : decode cX8_isShut 127 = .ok (.iconst 1, 1) := by decide +kernel
theorem dX8_isShut_128 : decode cX8_isShut 128 = .ok (.goto 4, 3) := by decide +kernel
theorem dX8_isShut_131 : decode cX8_isShut 131 = .ok (.iconst 0, 1) := by decide +kernel
theorem dX8_isShut_132 : decode cX8_isShut 132 = .ok (.if_icmp .ne 7, 3) := by decide +kernel
theorem dX8_isShut_135 : decode cX8_isShut 135 = .ok (.iconst 1, 1) := by decide +kernel
theorem dX8_isShut_136 : decode cX8_isShut 136 = .ok (.goto 4, 3) := by decide +kernel
theorem dX8_isShut_139 : decode cX8_isShut 139 = .ok (.iconst 0, 1) := by decide +kernel
theorem dX8_isShut_140 : decode cX8_isShut 140 = .ok (.ireturn, 1) := by decide +kernel
theorem dX8_isWay_0 : decode cX8_isWay 0 = .ok (.aload_n 0, 1) := by decide +kernel
theorem dX8_isWay_1 : decode cX8_isWay 1 = .ok (.getfield 19, 3) := by decide +kernel
theorem dX8_isWay_4 : decode cX8_isWay 4 = .ok (.bipush 21, 2) := by decide +kernel
theorem dX8_isWay_6 : decode cX8_isWay 6 = .ok (.iload_n 1, 1) := by decide +kernel
theorem dX8_isWay_7 : decode cX8_isWay 7 = .ok (.iadd, 1) := by decide +kernel
theorem dX8_isWay_8 : decode cX8_isWay 8 = .ok (.iaload, 1) := by decide +kernel
theorem dX8_isWay_9 : decode cX8_isWay 9 = .ok (.ifCond .eq 22, 3) := by decide +kernel
theorem dX8_isWay_12 : decode cX8_isWay 12 = .ok (.aload_n 0, 1) := by decide +kernel
theorem dX8_isWay_13 : decode cX8_isWay 13 = .ok (.getfield 19, 3) := by decide +kernel
theorem dX8_isWay_16 : decode cX8_isWay 16 = .ok (.bipush 21, 2) := by decide +kernel
theorem dX8_isWay_18 : decode cX8_isWay 18 = .ok (.iload_n 1, 1) := by decide +kernel
theorem dX8_isWay_19 : decode cX8_isWay 19 = .ok (.iadd, 1) := by decide +kernel
theorem dX8_isWay_20 : decode cX8_isWay 20 = .ok (.iaload, 1) := by decide +kernel
theorem dX8_isWay_21 : decode cX8_isWay 21 = .ok (.iconst 2, 1) := by decide +kernel
theorem dX8_isWay_22 : decode cX8_isWay 22 = .ok (.if_icmp .ne 7, 3) := by decide +kernel
theorem dX8_isWay_25 : decode cX8_isWay 25 = .ok (.iconst 1, 1) := by decide +kernel
theorem dX8_isWay_26 : decode cX8_isWay 26 = .ok (.goto 4, 3) := by decide +kernel
theorem dX8_isWay_29 : decode cX8_isWay 29 = .ok (.iconst 0, 1) := by decide +kernel
theorem dX8_isWay_30 : decode cX8_isWay 30 = .ok (.ireturn, 1) := by decide +kernel
theorem dX8_isWay_31 : decode cX8_isWay 31 = .ok (.iload_n 2, 1) := by decide +kernel
theorem dX8_isWay_32 : decode cX8_isWay 32 = .ok (.ifCond .eq 35, 3) := by decide +kernel
theorem dX8_isWay_35 : decode cX8_isWay 35 = .ok (.aload_n 0, 1) := by decide +kernel
theorem dX8_isWay_36 : decode cX8_isWay 36 = .ok (.getfield 13, 3) := by decide +kernel
theorem dX8_isWay_39 : decode cX8_isWay 39 = .ok (.iconst 3, 1) := by decide +kernel
theorem dX8_isWay_40 : decode cX8_isWay 40 = .ok (.iload_n 1, 1) := by decide +kernel
theorem dX8_isWay_41 : decode cX8_isWay 41 = .ok (.iadd, 1) := by decide +kernel
theorem dX8_isWay_42 : decode cX8_isWay 42 = .ok (.iaload, 1) := by decide +kernel
theorem dX8_isWay_43 : decode cX8_isWay 43 = .ok (.iconst 3, 1) := by decide +kernel
theorem dX8_isWay_44 : decode cX8_isWay 44 = .ok (.if_icmp .eq 19, 3) := by decide +kernel
theorem dX8_isWay_47 : decode cX8_isWay 47 = .ok (.aload_n 0, 1) := by decide +kernel
theorem dX8_isWay_48 : decode cX8_isWay 48 = .ok (.getfield 19, 3) := by decide +kernel
theorem dX8_isWay_51 : decode cX8_isWay 51 = .ok (.iconst 3, 1) := by decide +kernel
theorem dX8_isWay_52 : decode cX8_isWay 52 = .ok (.iload_n 1, 1) := by decide +kernel
theorem dX8_isWay_53 : decode cX8_isWay 53 = .ok (.iadd, 1) := by decide +kernel
theorem dX8_isWay_54 : decode cX8_isWay 54 = .ok (.iaload, 1) := by decide +kernel
theorem dX8_isWay_55 : decode cX8_isWay 55 = .ok (.iconst 2, 1) := by decide +kernel
theorem dX8_isWay_56 : decode cX8_isWay 56 = .ok (.if_icmp .eq 7, 3) := by decide +kernel
theorem dX8_isWay_59 : decode cX8_isWay 59 = .ok (.iconst 1, 1) := by decide +kernel
theorem dX8_isWay_60 : decode cX8_isWay 60 = .ok (.goto 24, 3) := by decide +kernel
theorem dX8_isWay_63 : decode cX8_isWay 63 = .ok (.iconst 0, 1) := by decide +kernel
theorem dX8_isWay_64 : decode cX8_isWay 64 = .ok (.goto 20, 3) := by decide +kernel
theorem dX8_isWay_67 : decode cX8_isWay 67 = .ok (.aload_n 0, 1) := by decide +kernel
theorem dX8_isWay_68 : decode cX8_isWay 68 = .ok (.getfield 19, 3) := by decide +kernel
theorem dX8_isWay_71 : decode cX8_isWay 71 = .ok (.iconst 3, 1) := by decide +kernel
theorem dX8_isWay_72 : decode cX8_isWay 72 = .ok (.iload_n 1, 1) := by decide +kernel
theorem dX8_isWay_73 : decode cX8_isWay 73 = .ok (.iadd, 1) := by decide +kernel
theorem dX8_isWay_74 : decode cX8_isWay 74 = .ok (.iaload, 1) := by decide +kernel
theorem dX8_isWay_75 : decode cX8_isWay 75 = .ok (.iconst 3, 1) := by decide +kernel
theorem dX8_isWay_76 : decode cX8_isWay 76 = .ok (.if_icmp .eq 7, 3) := by decide +kernel
theorem dX8_isWay_79 : decode cX8_isWay 79 = .ok (.iconst 1, 1) := by decide +kernel
theorem dX8_isWay_80 : decode cX8_isWay 80 = .ok (.goto 4, 3) := by decide +kernel
theorem dX8_isWay_83 : decode cX8_isWay 83 = .ok (.iconst 0, 1) := by decide +kernel
theorem dX8_isWay_84 : decode cX8_isWay 84 = .ok (.ireturn, 1) := by decide +kernel
theorem dX8_live_0 : decode cX8_live 0 = .ok (.iconst 1, 1) := by decide +kernel
theorem dX8_live_1 : decode cX8_live 1 = .ok (.istore_n 3, 1) := by decide +kernel
theorem dX8_live_2 : decode cX8_live 2 = .ok (.iconst 0, 1) := by decide +kernel
theorem dX8_live_3 : decode cX8_live 3 = .ok (.istore 4, 2) := by decide +kernel
theorem dX8_live_5 : decode cX8_live 5 = .ok (.iload 4, 2) := by decide +kernel
theorem dX8_live_7 : decode cX8_live 7 = .ok (.aload_n 0, 1) := by decide +kernel
theorem dX8_live_8 : decode cX8_live 8 = .ok (.getfield 13, 3) := by decide +kernel
theorem dX8_live_11 : decode cX8_live 11 = .ok (.iconst 0, 1) := by decide +kernel
theorem dX8_live_12 : decode cX8_live 12 = .ok (.iaload, 1) := by decide +kernel
theorem dX8_live_13 : decode cX8_live 13 = .ok (.if_icmp .ge 132, 3) := by decide +kernel
theorem dX8_live_16 : decode cX8_live 16 = .ok (.iconst 0, 1) := by decide +kernel
theorem dX8_live_17 : decode cX8_live 17 = .ok (.istore 5, 2) := by decide +kernel
theorem dX8_live_19 : decode cX8_live 19 = .ok (.iload 5, 2) := by decide +kernel
theorem dX8_live_21 : decode cX8_live 21 = .ok (.aload_n 0, 1) := by decide +kernel
theorem dX8_live_22 : decode cX8_live 22 = .ok (.getfield 13, 3) := by decide +kernel
theorem dX8_live_25 : decode cX8_live 25 = .ok (.iconst 1, 1) := by decide +kernel
theorem dX8_live_26 : decode cX8_live 26 = .ok (.iaload, 1) := by decide +kernel
theorem dX8_live_27 : decode cX8_live 27 = .ok (.if_icmp .ge 112, 3) := by decide +kernel
theorem dX8_live_30 : decode cX8_live 30 = .ok (.iload_n 2, 1) := by decide +kernel
theorem dX8_live_31 : decode cX8_live 31 = .ok (.iload 5, 2) := by decide +kernel
theorem dX8_live_33 : decode cX8_live 33 = .ok (.invokestatic 130, 3) := by decide +kernel
theorem dX8_live_36 : decode cX8_live 36 = .ok (.ifCond .ne 97, 3) := by decide +kernel
theorem dX8_live_39 : decode cX8_live 39 = .ok (.aload_n 0, 1) := by decide +kernel
theorem dX8_live_40 : decode cX8_live 40 = .ok (.iload 5, 2) := by decide +kernel
theorem dX8_live_42 : decode cX8_live 42 = .ok (.iload_n 1, 1) := by decide +kernel
theorem dX8_live_43 : decode cX8_live 43 = .ok (.invokevirtual 133, 3) := by decide +kernel
theorem dX8_live_46 : decode cX8_live 46 = .ok (.ifCond .eq 87, 3) := by decide +kernel
theorem dX8_live_49 : decode cX8_live 49 = .ok (.aload_n 0, 1) := by decide +kernel
theorem dX8_live_50 : decode cX8_live 50 = .ok (.getfield 13, 3) := by decide +kernel
theorem dX8_live_53 : decode cX8_live 53 = .ok (.bipush 12, 2) := by decide +kernel
theorem dX8_live_55 : decode cX8_live 55 = .ok (.iload 5, 2) := by decide +kernel
theorem dX8_live_57 : decode cX8_live 57 = .ok (.iadd, 1) := by decide +kernel
theorem dX8_live_58 : decode cX8_live 58 = .ok (.iaload, 1) := by decide +kernel
theorem dX8_live_59 : decode cX8_live 59 = .ok (.istore 6, 2) := by decide +kernel
theorem dX8_live_61 : decode cX8_live 61 = .ok (.aload_n 0, 1) := by decide +kernel
theorem dX8_live_62 : decode cX8_live 62 = .ok (.getfield 13, 3) := by decide +kernel
theorem dX8_live_65 : decode cX8_live 65 = .ok (.bipush 21, 2) := by decide +kernel
theorem dX8_live_67 : decode cX8_live 67 = .ok (.iload 5, 2) := by decide +kernel
theorem dX8_live_69 : decode cX8_live 69 = .ok (.iadd, 1) := by decide +kernel
theorem dX8_live_70 : decode cX8_live 70 = .ok (.iaload, 1) := by decide +kernel
theorem dX8_live_71 : decode cX8_live 71 = .ok (.istore 7, 2) := by decide +kernel
theorem dX8_live_73 : decode cX8_live 73 = .ok (.iload_n 3, 1) := by decide +kernel
theorem dX8_live_74 : decode cX8_live 74 = .ok (.iload_n 3, 1) := by decide +kernel
theorem dX8_live_75 : decode cX8_live 75 = .ok (.iload 6, 2) := by decide +kernel
theorem dX8_live_77 : decode cX8_live 77 = .ok (.invokestatic 130, 3) := by decide +kernel
theorem dX8_live_80 : decode cX8_live 80 = .ok (.ifCond .eq 20, 3) := by decide +kernel
theorem dX8_live_83 : decode cX8_live 83 = .ok (.aload_n 0, 1) := by decide +kernel
theorem dX8_live_84 : decode cX8_live 84 = .ok (.iload 5, 2) := by decide +kernel
theorem dX8_live_86 : decode cX8_live 86 = .ok (.iconst 0, 1) := by decide +kernel
theorem dX8_live_87 : decode cX8_live 87 = .ok (.invokevirtual 136, 3) := by decide +kernel
theorem dX8_live_90 : decode cX8_live 90 = .ok (.ifCond .eq 10, 3) := by decide +kernel
theorem dX8_live_93 : decode cX8_live 93 = .ok (.iconst 1, 1) := by decide +kernel
theorem dX8_live_94 : decode cX8_live 94 = .ok (.iload 7, 2) := by decide +kernel
theorem dX8_live_96 : decode cX8_live 96 = .ok (.ishl, 1) := by decide +kernel
theorem dX8_live_97 : decode cX8_live 97 = .ok (.goto 4, 3) := by decide +kernel
theorem dX8_live_100 : decode cX8_live 100 = .ok (.iconst 0, 1) := by decide +kernel
theorem dX8_live_101 : decode cX8_live 101 = .ok (.ior, 1) := by decide +kernel
theorem dX8_live_102 : decode cX8_live 102 = .ok (.istore_n 3, 1) := by decide +kernel
theorem dX8_live_103 : decode cX8_live 103 = .ok (.iload_n 3, 1) := by decide +kernel
theorem dX8_live_104 : decode cX8_live 104 = .ok (.iload_n 3, 1) := by decide +kernel
theorem dX8_live_105 : decode cX8_live 105 = .ok (.iload 7, 2) := by decide +kernel
theorem dX8_live_107 : decode cX8_live 107 = .ok (.invokestatic 130, 3) := by decide +kernel
theorem dX8_live_110 : decode cX8_live 110 = .ok (.ifCond .eq 20, 3) := by decide +kernel
theorem dX8_live_113 : decode cX8_live 113 = .ok (.aload_n 0, 1) := by decide +kernel
theorem dX8_live_114 : decode cX8_live 114 = .ok (.iload 5, 2) := by decide +kernel
theorem dX8_live_116 : decode cX8_live 116 = .ok (.iconst 1, 1) := by decide +kernel
theorem dX8_live_117 : decode cX8_live 117 = .ok (.invokevirtual 136, 3) := by decide +kernel
theorem dX8_live_120 : decode cX8_live 120 = .ok (.ifCond .eq 10, 3) := by decide +kernel
theorem dX8_live_123 : decode cX8_live 123 = .ok (.iconst 1, 1) := by decide +kernel
theorem dX8_live_124 : decode cX8_live 124 = .ok (.iload 6, 2) := by decide +kernel
theorem dX8_live_126 : decode cX8_live 126 = .ok (.ishl, 1) := by decide +kernel
theorem dX8_live_127 : decode cX8_live 127 = .ok (.goto 4, 3) := by decide +kernel
theorem dX8_live_130 : decode cX8_live 130 = .ok (.iconst 0, 1) := by decide +kernel
theorem dX8_live_131 : decode cX8_live 131 = .ok (.ior, 1) := by decide +kernel
theorem dX8_live_132 : decode cX8_live 132 = .ok (.istore_n 3, 1) := by decide +kernel
theorem dX8_live_133 : decode cX8_live 133 = .ok (.iinc 5 1, 3) := by decide +kernel
theorem dX8_live_136 : decode cX8_live 136 = .ok (.goto (-117), 3) := by decide +kernel
theorem dX8_live_139 : decode cX8_live 139 = .ok (.iinc 4 1, 3) := by decide +kernel
theorem dX8_live_142 : decode cX8_live 142 = .ok (.goto (-137), 3) := by decide +kernel
theorem dX8_live_145 : decode cX8_live 145 = .ok (.iload_n 3, 1) := by decide +kernel
theorem dX8_live_146 : decode cX8_live 146 = .ok (.ireturn, 1) := by decide +kernel
theorem dX8_isFed_0 : decode cX8_isFed 0 = .ok (.aload_n 0, 1) := by decide +kernel
theorem dX8_isFed_1 : decode cX8_isFed 1 = .ok (.iload_n 2, 1) := by decide +kernel
theorem dX8_isFed_2 : decode cX8_isFed 2 = .ok (.iload_n 3, 1) := by decide +kernel
theorem dX8_isFed_3 : decode cX8_isFed 3 = .ok (.invokevirtual 140, 3) := by decide +kernel
theorem dX8_isFed_6 : decode cX8_isFed 6 = .ok (.aload_n 0, 1) := by decide +kernel
theorem dX8_isFed_7 : decode cX8_isFed 7 = .ok (.getfield 13, 3) := by decide +kernel
theorem dX8_isFed_10 : decode cX8_isFed 10 = .ok (.bipush 39, 2) := by decide +kernel
theorem dX8_isFed_12 : decode cX8_isFed 12 = .ok (.iload_n 1, 1) := by decide +kernel
theorem dX8_isFed_13 : decode cX8_isFed 13 = .ok (.iadd, 1) := by decide +kernel
theorem dX8_isFed_14 : decode cX8_isFed 14 = .ok (.iaload, 1) := by decide +kernel
theorem dX8_isFed_15 : decode cX8_isFed 15 = .ok (.invokestatic 130, 3) := by decide +kernel
theorem dX8_isFed_18 : decode cX8_isFed 18 = .ok (.ireturn, 1) := by decide +kernel
theorem dX8_fedIn_0 : decode cX8_fedIn 0 = .ok (.iconst 0, 1) := by decide +kernel
theorem dX8_fedIn_1 : decode cX8_fedIn 1 = .ok (.istore_n 2, 1) := by decide +kernel
theorem dX8_fedIn_2 : decode cX8_fedIn 2 = .ok (.iconst 0, 1) := by decide +kernel
theorem dX8_fedIn_3 : decode cX8_fedIn 3 = .ok (.istore_n 3, 1) := by decide +kernel
theorem dX8_fedIn_4 : decode cX8_fedIn 4 = .ok (.iload_n 3, 1) := by decide +kernel
theorem dX8_fedIn_5 : decode cX8_fedIn 5 = .ok (.bipush 16, 2) := by decide +kernel
theorem dX8_fedIn_7 : decode cX8_fedIn 7 = .ok (.if_icmp .ge 29, 3) := by decide +kernel
theorem dX8_fedIn_10 : decode cX8_fedIn 10 = .ok (.iload_n 2, 1) := by decide +kernel
theorem dX8_fedIn_11 : decode cX8_fedIn 11 = .ok (.aload_n 0, 1) := by decide +kernel
theorem dX8_fedIn_12 : decode cX8_fedIn 12 = .ok (.iload_n 1, 1) := by decide +kernel
theorem dX8_fedIn_13 : decode cX8_fedIn 13 = .ok (.iload_n 3, 1) := by decide +kernel
theorem dX8_fedIn_14 : decode cX8_fedIn 14 = .ok (.iconst 0, 1) := by decide +kernel
theorem dX8_fedIn_15 : decode cX8_fedIn 15 = .ok (.invokevirtual 144, 3) := by decide +kernel
theorem dX8_fedIn_18 : decode cX8_fedIn 18 = .ok (.ifCond .eq 9, 3) := by decide +kernel
theorem dX8_fedIn_21 : decode cX8_fedIn 21 = .ok (.iconst 1, 1) := by decide +kernel
theorem dX8_fedIn_22 : decode cX8_fedIn 22 = .ok (.iload_n 3, 1) := by decide +kernel
theorem dX8_fedIn_23 : decode cX8_fedIn 23 = .ok (.ishl, 1) := by decide +kernel
theorem dX8_fedIn_24 : decode cX8_fedIn 24 = .ok (.goto 4, 3) := by decide +kernel
theorem dX8_fedIn_27 : decode cX8_fedIn 27 = .ok (.iconst 0, 1) := by decide +kernel
theorem dX8_fedIn_28 : decode cX8_fedIn 28 = .ok (.ior, 1) := by decide +kernel
theorem dX8_fedIn_29 : decode cX8_fedIn 29 = .ok (.istore_n 2, 1) := by decide +kernel
theorem dX8_fedIn_30 : decode cX8_fedIn 30 = .ok (.iinc 3 1, 3) := by decide +kernel
theorem dX8_fedIn_33 : decode cX8_fedIn 33 = .ok (.goto (-29), 3) := by decide +kernel
theorem dX8_fedIn_36 : decode cX8_fedIn 36 = .ok (.iload_n 2, 1) := by decide +kernel
theorem dX8_fedIn_37 : decode cX8_fedIn 37 = .ok (.ireturn, 1) := by decide +kernel
theorem dX8_contact_0 : decode cX8_contact 0 = .ok (.aload_n 0, 1) := by decide +kernel
theorem dX8_contact_1 : decode cX8_contact 1 = .ok (.iconst 0, 1) := by decide +kernel
theorem dX8_contact_2 : decode cX8_contact 2 = .ok (.putfield 59, 3) := by decide +kernel
theorem dX8_contact_5 : decode cX8_contact 5 = .ok (.aload_n 0, 1) := by decide +kernel
theorem dX8_contact_6 : decode cX8_contact 6 = .ok (.iload_n 1, 1) := by decide +kernel
theorem dX8_contact_7 : decode cX8_contact 7 = .ok (.invokevirtual 147, 3) := by decide +kernel
theorem dX8_contact_10 : decode cX8_contact 10 = .ok (.ifCond .eq 13, 3) := by decide +kernel
theorem dX8_contact_13 : decode cX8_contact 13 = .ok (.iload_n 2, 1) := by decide +kernel
theorem dX8_contact_14 : decode cX8_contact 14 = .ok (.iconst 0, 1) := by decide +kernel
theorem dX8_contact_15 : decode cX8_contact 15 = .ok (.bipush 6, 2) := by decide +kernel
theorem dX8_contact_17 : decode cX8_contact 17 = .ok (.invokestatic 63, 3) := by decide +kernel
theorem dX8_contact_20 : decode cX8_contact 20 = .ok (.ifCond .ne 5, 3) := by decide +kernel
theorem dX8_contact_23 : decode cX8_contact 23 = .ok (.iconst (-1), 1) := by decide +kernel
theorem dX8_contact_24 : decode cX8_contact 24 = .ok (.ireturn, 1) := by decide +kernel
theorem dX8_contact_25 : decode cX8_contact 25 = .ok (.iload_n 2, 1) := by decide +kernel
theorem dX8_contact_26 : decode cX8_contact 26 = .ok (.iconst 4, 1) := by decide +kernel
theorem dX8_contact_27 : decode cX8_contact 27 = .ok (.if_icmp .ge 62, 3) := by decide +kernel
theorem dX8_contact_30 : decode cX8_contact 30 = .ok (.iload_n 2, 1) := by decide +kernel
theorem dX8_contact_31 : decode cX8_contact 31 = .ok (.ifCond .ne 14, 3) := by decide +kernel
theorem dX8_contact_34 : decode cX8_contact 34 = .ok (.aload_n 0, 1) := by decide +kernel
theorem dX8_contact_35 : decode cX8_contact 35 = .ok (.getfield 13, 3) := by decide +kernel
theorem dX8_contact_38 : decode cX8_contact 38 = .ok (.iconst 3, 1) := by decide +kernel
theorem dX8_contact_39 : decode cX8_contact 39 = .ok (.iload_n 1, 1) := by decide +kernel
theorem dX8_contact_40 : decode cX8_contact 40 = .ok (.iadd, 1) := by decide +kernel
theorem dX8_contact_41 : decode cX8_contact 41 = .ok (.iaload, 1) := by decide +kernel
theorem dX8_contact_42 : decode cX8_contact 42 = .ok (.goto 46, 3) := by decide +kernel
theorem dX8_contact_45 : decode cX8_contact 45 = .ok (.iload_n 2, 1) := by decide +kernel
theorem dX8_contact_46 : decode cX8_contact 46 = .ok (.iconst 1, 1) := by decide +kernel
theorem dX8_contact_47 : decode cX8_contact 47 = .ok (.if_icmp .ne 15, 3) := by decide +kernel
theorem dX8_contact_50 : decode cX8_contact 50 = .ok (.aload_n 0, 1) := by decide +kernel
theorem dX8_contact_51 : decode cX8_contact 51 = .ok (.getfield 13, 3) := by decide +kernel
theorem dX8_contact_54 : decode cX8_contact 54 = .ok (.bipush 12, 2) := by decide +kernel
theorem dX8_contact_56 : decode cX8_contact 56 = .ok (.iload_n 1, 1) := by decide +kernel
theorem dX8_contact_57 : decode cX8_contact 57 = .ok (.iadd, 1) := by decide +kernel
theorem dX8_contact_58 : decode cX8_contact 58 = .ok (.iaload, 1) := by decide +kernel
theorem dX8_contact_59 : decode cX8_contact 59 = .ok (.goto 29, 3) := by decide +kernel
theorem dX8_contact_62 : decode cX8_contact 62 = .ok (.iload_n 2, 1) := by decide +kernel
theorem dX8_contact_63 : decode cX8_contact 63 = .ok (.iconst 2, 1) := by decide +kernel
theorem dX8_contact_64 : decode cX8_contact 64 = .ok (.if_icmp .ne 15, 3) := by decide +kernel
theorem dX8_contact_67 : decode cX8_contact 67 = .ok (.aload_n 0, 1) := by decide +kernel
theorem dX8_contact_68 : decode cX8_contact 68 = .ok (.getfield 13, 3) := by decide +kernel
theorem dX8_contact_71 : decode cX8_contact 71 = .ok (.bipush 21, 2) := by decide +kernel
theorem dX8_contact_73 : decode cX8_contact 73 = .ok (.iload_n 1, 1) := by decide +kernel
theorem dX8_contact_74 : decode cX8_contact 74 = .ok (.iadd, 1) := by decide +kernel
theorem dX8_contact_75 : decode cX8_contact 75 = .ok (.iaload, 1) := by decide +kernel
theorem dX8_contact_76 : decode cX8_contact 76 = .ok (.goto 12, 3) := by decide +kernel
theorem dX8_contact_79 : decode cX8_contact 79 = .ok (.aload_n 0, 1) := by decide +kernel
theorem dX8_contact_80 : decode cX8_contact 80 = .ok (.getfield 13, 3) := by decide +kernel
theorem dX8_contact_83 : decode cX8_contact 83 = .ok (.bipush 30, 2) := by decide +kernel
theorem dX8_contact_85 : decode cX8_contact 85 = .ok (.iload_n 1, 1) := by decide +kernel
theorem dX8_contact_86 : decode cX8_contact 86 = .ok (.iadd, 1) := by decide +kernel
theorem dX8_contact_87 : decode cX8_contact 87 = .ok (.iaload, 1) := by decide +kernel
theorem dX8_contact_88 : decode cX8_contact 88 = .ok (.ireturn, 1) := by decide +kernel
theorem dX8_contact_89 : decode cX8_contact 89 = .ok (.iload_n 2, 1) := by decide +kernel
theorem dX8_contact_90 : decode cX8_contact 90 = .ok (.iconst 4, 1) := by decide +kernel
theorem dX8_contact_91 : decode cX8_contact 91 = .ok (.if_icmp .ne 14, 3) := by decide +kernel
theorem dX8_contact_94 : decode cX8_contact 94 = .ok (.aload_n 0, 1) := by decide +kernel
theorem dX8_contact_95 : decode cX8_contact 95 = .ok (.getfield 19, 3) := by decide +kernel
theorem dX8_contact_98 : decode cX8_contact 98 = .ok (.iconst 3, 1) := by decide +kernel
theorem dX8_contact_99 : decode cX8_contact 99 = .ok (.iload_n 1, 1) := by decide +kernel
theorem dX8_contact_100 : decode cX8_contact 100 = .ok (.iadd, 1) := by decide +kernel
theorem dX8_contact_101 : decode cX8_contact 101 = .ok (.iaload, 1) := by decide +kernel
theorem dX8_contact_102 : decode cX8_contact 102 = .ok (.goto 46, 3) := by decide +kernel
theorem dX8_contact_105 : decode cX8_contact 105 = .ok (.iload_n 2, 1) := by decide +kernel
theorem dX8_contact_106 : decode cX8_contact 106 = .ok (.iconst 5, 1) := by decide +kernel
theorem dX8_contact_107 : decode cX8_contact 107 = .ok (.if_icmp .ne 32, 3) := by decide +kernel
theorem dX8_contact_110 : decode cX8_contact 110 = .ok (.aload_n 0, 1) := by decide +kernel
theorem dX8_contact_111 : decode cX8_contact 111 = .ok (.getfield 19, 3) := by decide +kernel
theorem dX8_contact_114 : decode cX8_contact 114 = .ok (.iconst 3, 1) := by decide +kernel
theorem dX8_contact_115 : decode cX8_contact 115 = .ok (.iload_n 1, 1) := by decide +kernel
theorem dX8_contact_116 : decode cX8_contact 116 = .ok (.iadd, 1) := by decide +kernel
theorem dX8_contact_117 : decode cX8_contact 117 = .ok (.iaload, 1) := by decide +kernel
theorem dX8_contact_118 : decode cX8_contact 118 = .ok (.iconst 2, 1) := by decide +kernel
theorem dX8_contact_119 : decode cX8_contact 119 = .ok (.if_icmp .ge 15, 3) := by decide +kernel
theorem dX8_contact_122 : decode cX8_contact 122 = .ok (.aload_n 0, 1) := by decide +kernel
theorem dX8_contact_123 : decode cX8_contact 123 = .ok (.getfield 19, 3) := by decide +kernel
theorem dX8_contact_126 : decode cX8_contact 126 = .ok (.bipush 12, 2) := by decide +kernel
theorem dX8_contact_128 : decode cX8_contact 128 = .ok (.iload_n 1, 1) := by decide +kernel
theorem dX8_contact_129 : decode cX8_contact 129 = .ok (.iadd, 1) := by decide +kernel
theorem dX8_contact_130 : decode cX8_contact 130 = .ok (.iaload, 1) := by decide +kernel
theorem dX8_contact_131 : decode cX8_contact 131 = .ok (.goto 17, 3) := by decide +kernel
theorem dX8_contact_134 : decode cX8_contact 134 = .ok (.bipush (-9), 2) := by decide +kernel
theorem dX8_contact_136 : decode cX8_contact 136 = .ok (.goto 12, 3) := by decide +kernel
theorem dX8_contact_139 : decode cX8_contact 139 = .ok (.aload_n 0, 1) := by decide +kernel
theorem dX8_contact_140 : decode cX8_contact 140 = .ok (.getfield 19, 3) := by decide +kernel
theorem dX8_contact_143 : decode cX8_contact 143 = .ok (.bipush 21, 2) := by decide +kernel
theorem dX8_contact_145 : decode cX8_contact 145 = .ok (.iload_n 1, 1) := by decide +kernel
theorem dX8_contact_146 : decode cX8_contact 146 = .ok (.iadd, 1) := by decide +kernel
theorem dX8_contact_147 : decode cX8_contact 147 = .ok (.iaload, 1) := by decide +kernel
theorem dX8_contact_148 : decode cX8_contact 148 = .ok (.ireturn, 1) := by decide +kernel
theorem dX8_load_0 : decode cX8_load 0 = .ok (.aload_n 0, 1) := by decide +kernel
theorem dX8_load_1 : decode cX8_load 1 = .ok (.iconst 0, 1) := by decide +kernel
theorem dX8_load_2 : decode cX8_load 2 = .ok (.putfield 59, 3) := by decide +kernel
theorem dX8_load_5 : decode cX8_load 5 = .ok (.aload_n 0, 1) := by decide +kernel
theorem dX8_load_6 : decode cX8_load 6 = .ok (.iload_n 1, 1) := by decide +kernel
theorem dX8_load_7 : decode cX8_load 7 = .ok (.invokevirtual 150, 3) := by decide +kernel
theorem dX8_load_10 : decode cX8_load 10 = .ok (.ifCond .eq 12, 3) := by decide +kernel
theorem dX8_load_13 : decode cX8_load 13 = .ok (.iload_n 2, 1) := by decide +kernel
theorem dX8_load_14 : decode cX8_load 14 = .ok (.iconst 0, 1) := by decide +kernel
theorem dX8_load_15 : decode cX8_load 15 = .ok (.iconst 5, 1) := by decide +kernel
theorem dX8_load_16 : decode cX8_load 16 = .ok (.invokestatic 63, 3) := by decide +kernel
theorem dX8_load_19 : decode cX8_load 19 = .ok (.ifCond .ne 5, 3) := by decide +kernel
theorem dX8_load_22 : decode cX8_load 22 = .ok (.iconst (-1), 1) := by decide +kernel
theorem dX8_load_23 : decode cX8_load 23 = .ok (.ireturn, 1) := by decide +kernel
theorem dX8_load_24 : decode cX8_load 24 = .ok (.aload_n 0, 1) := by decide +kernel
theorem dX8_load_25 : decode cX8_load 25 = .ok (.iload_n 1, 1) := by decide +kernel
theorem dX8_load_26 : decode cX8_load 26 = .ok (.invokevirtual 121, 3) := by decide +kernel
theorem dX8_load_29 : decode cX8_load 29 = .ok (.istore_n 3, 1) := by decide +kernel
theorem dX8_load_30 : decode cX8_load 30 = .ok (.aload_n 0, 1) := by decide +kernel
theorem dX8_load_31 : decode cX8_load 31 = .ok (.getfield 19, 3) := by decide +kernel
theorem dX8_load_34 : decode cX8_load 34 = .ok (.iconst 0, 1) := by decide +kernel
theorem dX8_load_35 : decode cX8_load 35 = .ok (.iload_n 1, 1) := by decide +kernel
theorem dX8_load_36 : decode cX8_load 36 = .ok (.iadd, 1) := by decide +kernel
theorem dX8_load_37 : decode cX8_load 37 = .ok (.iaload, 1) := by decide +kernel
theorem dX8_load_38 : decode cX8_load 38 = .ok (.istore 4, 2) := by decide +kernel
theorem dX8_load_40 : decode cX8_load 40 = .ok (.iload_n 2, 1) := by decide +kernel
theorem dX8_load_41 : decode cX8_load 41 = .ok (.iconst 3, 1) := by decide +kernel
theorem dX8_load_42 : decode cX8_load 42 = .ok (.if_icmp .ge 31, 3) := by decide +kernel
theorem dX8_load_45 : decode cX8_load 45 = .ok (.iload_n 2, 1) := by decide +kernel
theorem dX8_load_46 : decode cX8_load 46 = .ok (.ifCond .ne 15, 3) := by decide +kernel
theorem dX8_load_49 : decode cX8_load 49 = .ok (.aload_n 0, 1) := by decide +kernel
theorem dX8_load_50 : decode cX8_load 50 = .ok (.getfield 13, 3) := by decide +kernel
theorem dX8_load_53 : decode cX8_load 53 = .ok (.bipush 39, 2) := by decide +kernel
theorem dX8_load_55 : decode cX8_load 55 = .ok (.iload_n 1, 1) := by decide +kernel
theorem dX8_load_56 : decode cX8_load 56 = .ok (.iadd, 1) := by decide +kernel
theorem dX8_load_57 : decode cX8_load 57 = .ok (.iaload, 1) := by decide +kernel
theorem dX8_load_58 : decode cX8_load 58 = .ok (.goto 14, 3) := by decide +kernel
theorem dX8_load_61 : decode cX8_load 61 = .ok (.iload_n 2, 1) := by decide +kernel
theorem dX8_load_62 : decode cX8_load 62 = .ok (.iconst 1, 1) := by decide +kernel
theorem dX8_load_63 : decode cX8_load 63 = .ok (.if_icmp .ne 7, 3) := by decide +kernel
theorem dX8_load_66 : decode cX8_load 66 = .ok (.iload_n 3, 1) := by decide +kernel
theorem dX8_load_67 : decode cX8_load 67 = .ok (.goto 5, 3) := by decide +kernel
theorem dX8_load_70 : decode cX8_load 70 = .ok (.iload 4, 2) := by decide +kernel
theorem dX8_load_72 : decode cX8_load 72 = .ok (.ireturn, 1) := by decide +kernel
theorem dX8_load_73 : decode cX8_load 73 = .ok (.iload_n 2, 1) := by decide +kernel
theorem dX8_load_74 : decode cX8_load 74 = .ok (.iconst 3, 1) := by decide +kernel
theorem dX8_load_75 : decode cX8_load 75 = .ok (.if_icmp .ne 12, 3) := by decide +kernel
theorem dX8_load_78 : decode cX8_load 78 = .ok (.iload_n 3, 1) := by decide +kernel
theorem dX8_load_79 : decode cX8_load 79 = .ok (.iload 4, 2) := by decide +kernel
theorem dX8_load_81 : decode cX8_load 81 = .ok (.iconst (-1), 1) := by decide +kernel
theorem dX8_load_82 : decode cX8_load 82 = .ok (.ixor, 1) := by decide +kernel
theorem dX8_load_83 : decode cX8_load 83 = .ok (.iand, 1) := by decide +kernel
theorem dX8_load_84 : decode cX8_load 84 = .ok (.goto 22, 3) := by decide +kernel
theorem dX8_load_87 : decode cX8_load 87 = .ok (.iload_n 2, 1) := by decide +kernel
theorem dX8_load_88 : decode cX8_load 88 = .ok (.iconst 4, 1) := by decide +kernel
theorem dX8_load_89 : decode cX8_load 89 = .ok (.if_icmp .ne 12, 3) := by decide +kernel
theorem dX8_load_92 : decode cX8_load 92 = .ok (.iload 4, 2) := by decide +kernel
theorem dX8_load_94 : decode cX8_load 94 = .ok (.iload_n 3, 1) := by decide +kernel
theorem dX8_load_95 : decode cX8_load 95 = .ok (.iconst (-1), 1) := by decide +kernel
theorem dX8_load_96 : decode cX8_load 96 = .ok (.ixor, 1) := by decide +kernel
theorem dX8_load_97 : decode cX8_load 97 = .ok (.iand, 1) := by decide +kernel
theorem dX8_load_98 : decode cX8_load 98 = .ok (.goto 8, 3) := by decide +kernel
theorem dX8_load_101 : decode cX8_load 101 = .ok (.aload_n 0, 1) := by decide +kernel
theorem dX8_load_102 : decode cX8_load 102 = .ok (.iload_n 1, 1) := by decide +kernel
theorem dX8_load_103 : decode cX8_load 103 = .ok (.invokevirtual 153, 3) := by decide +kernel
theorem dX8_load_106 : decode cX8_load 106 = .ok (.ireturn, 1) := by decide +kernel
theorem dX8_notes_0 : decode cX8_notes 0 = .ok (.aload_n 0, 1) := by decide +kernel
theorem dX8_notes_1 : decode cX8_notes 1 = .ok (.getfield 127, 3) := by decide +kernel
theorem dX8_notes_4 : decode cX8_notes 4 = .ok (.bipush 10, 2) := by decide +kernel
theorem dX8_notes_6 : decode cX8_notes 6 = .ok (.if_icmp .ne 39, 3) := by decide +kernel
theorem dX8_notes_9 : decode cX8_notes 9 = .ok (.iconst 0, 1) := by decide +kernel
theorem dX8_notes_10 : decode cX8_notes 10 = .ok (.istore_n 1, 1) := by decide +kernel
theorem dX8_notes_11 : decode cX8_notes 11 = .ok (.iload_n 1, 1) := by decide +kernel
theorem dX8_notes_12 : decode cX8_notes 12 = .ok (.sipush 270, 3) := by decide +kernel
theorem dX8_notes_15 : decode cX8_notes 15 = .ok (.if_icmp .ge 24, 3) := by decide +kernel
theorem dX8_notes_18 : decode cX8_notes 18 = .ok (.aload_n 0, 1) := by decide +kernel
theorem dX8_notes_19 : decode cX8_notes 19 = .ok (.getfield 22, 3) := by decide +kernel
theorem dX8_notes_22 : decode cX8_notes 22 = .ok (.iload_n 1, 1) := by decide +kernel
theorem dX8_notes_23 : decode cX8_notes 23 = .ok (.aload_n 0, 1) := by decide +kernel
theorem dX8_notes_24 : decode cX8_notes 24 = .ok (.getfield 22, 3) := by decide +kernel
theorem dX8_notes_27 : decode cX8_notes 27 = .ok (.iload_n 1, 1) := by decide +kernel
theorem dX8_notes_28 : decode cX8_notes 28 = .ok (.bipush 30, 2) := by decide +kernel
theorem dX8_notes_30 : decode cX8_notes 30 = .ok (.iadd, 1) := by decide +kernel
theorem dX8_notes_31 : decode cX8_notes 31 = .ok (.iaload, 1) := by decide +kernel
theorem dX8_notes_32 : decode cX8_notes 32 = .ok (.iastore, 1) := by decide +kernel
theorem dX8_notes_33 : decode cX8_notes 33 = .ok (.iinc 1 1, 3) := by decide +kernel
theorem dX8_notes_36 : decode cX8_notes 36 = .ok (.goto (-25), 3) := by decide +kernel
theorem dX8_notes_39 : decode cX8_notes 39 = .ok (.aload_n 0, 1) := by decide +kernel
theorem dX8_notes_40 : decode cX8_notes 40 = .ok (.bipush 9, 2) := by decide +kernel
theorem dX8_notes_42 : decode cX8_notes 42 = .ok (.putfield 127, 3) := by decide +kernel
theorem dX8_notes_45 : decode cX8_notes 45 = .ok (.iconst 0, 1) := by decide +kernel
theorem dX8_notes_46 : decode cX8_notes 46 = .ok (.istore_n 1, 1) := by decide +kernel
theorem dX8_notes_47 : decode cX8_notes 47 = .ok (.iload_n 1, 1) := by decide +kernel
theorem dX8_notes_48 : decode cX8_notes 48 = .ok (.bipush 30, 2) := by decide +kernel
theorem dX8_notes_50 : decode cX8_notes 50 = .ok (.if_icmp .ge 29, 3) := by decide +kernel
theorem dX8_notes_53 : decode cX8_notes 53 = .ok (.aload_n 0, 1) := by decide +kernel
theorem dX8_notes_54 : decode cX8_notes 54 = .ok (.getfield 22, 3) := by decide +kernel
theorem dX8_notes_57 : decode cX8_notes 57 = .ok (.bipush 30, 2) := by decide +kernel
theorem dX8_notes_59 : decode cX8_notes 59 = .ok (.aload_n 0, 1) := by decide +kernel
theorem dX8_notes_60 : decode cX8_notes 60 = .ok (.getfield 127, 3) := by decide +kernel
theorem dX8_notes_63 : decode cX8_notes 63 = .ok (.imul, 1) := by decide +kernel
theorem dX8_notes_64 : decode cX8_notes 64 = .ok (.iload_n 1, 1) := by decide +kernel
theorem dX8_notes_65 : decode cX8_notes 65 = .ok (.iadd, 1) := by decide +kernel
theorem dX8_notes_66 : decode cX8_notes 66 = .ok (.aload_n 0, 1) := by decide +kernel
theorem dX8_notes_67 : decode cX8_notes 67 = .ok (.getfield 19, 3) := by decide +kernel
theorem dX8_notes_70 : decode cX8_notes 70 = .ok (.iload_n 1, 1) := by decide +kernel
theorem dX8_notes_71 : decode cX8_notes 71 = .ok (.iaload, 1) := by decide +kernel
theorem dX8_notes_72 : decode cX8_notes 72 = .ok (.iastore, 1) := by decide +kernel
theorem dX8_notes_73 : decode cX8_notes 73 = .ok (.iinc 1 1, 3) := by decide +kernel
theorem dX8_notes_76 : decode cX8_notes 76 = .ok (.goto (-29), 3) := by decide +kernel
theorem dX8_notes_79 : decode cX8_notes 79 = .ok (.aload_n 0, 1) := by decide +kernel
theorem dX8_notes_80 : decode cX8_notes 80 = .ok (.dup, 1) := by decide +kernel
theorem dX8_notes_81 : decode cX8_notes 81 = .ok (.getfield 127, 3) := by decide +kernel
theorem dX8_notes_84 : decode cX8_notes 84 = .ok (.iconst 1, 1) := by decide +kernel
theorem dX8_notes_85 : decode cX8_notes 85 = .ok (.iadd, 1) := by decide +kernel
theorem dX8_notes_86 : decode cX8_notes 86 = .ok (.putfield 127, 3) := by decide +kernel
theorem dX8_notes_89 : decode cX8_notes 89 = .ok (.return_, 1) := by decide +kernel
theorem dX8_wishes_0 : decode cX8_wishes 0 = .ok (.aload_n 0, 1) := by decide +kernel
theorem dX8_wishes_1 : decode cX8_wishes 1 = .ok (.iconst 0, 1) := by decide +kernel
theorem dX8_wishes_2 : decode cX8_wishes 2 = .ok (.putfield 59, 3) := by decide +kernel
theorem dX8_wishes_5 : decode cX8_wishes 5 = .ok (.aload_n 0, 1) := by decide +kernel
theorem dX8_wishes_6 : decode cX8_wishes 6 = .ok (.iload_n 1, 1) := by decide +kernel
theorem dX8_wishes_7 : decode cX8_wishes 7 = .ok (.invokevirtual 150, 3) := by decide +kernel
theorem dX8_wishes_10 : decode cX8_wishes 10 = .ok (.ifCond .eq 13, 3) := by decide +kernel
theorem dX8_wishes_13 : decode cX8_wishes 13 = .ok (.iload_n 2, 1) := by decide +kernel
theorem dX8_wishes_14 : decode cX8_wishes 14 = .ok (.iconst 0, 1) := by decide +kernel
theorem dX8_wishes_15 : decode cX8_wishes 15 = .ok (.ldc 156, 2) := by decide +kernel
theorem dX8_wishes_17 : decode cX8_wishes 17 = .ok (.invokestatic 63, 3) := by decide +kernel
theorem dX8_wishes_20 : decode cX8_wishes 20 = .ok (.ifCond .ne 5, 3) := by decide +kernel
theorem dX8_wishes_23 : decode cX8_wishes 23 = .ok (.iconst (-1), 1) := by decide +kernel
theorem dX8_wishes_24 : decode cX8_wishes 24 = .ok (.ireturn, 1) := by decide +kernel
theorem dX8_wishes_25 : decode cX8_wishes 25 = .ok (.aload_n 0, 1) := by decide +kernel
theorem dX8_wishes_26 : decode cX8_wishes 26 = .ok (.invokevirtual 157, 3) := by decide +kernel
theorem dX8_wishes_29 : decode cX8_wishes 29 = .ok (.aload_n 0, 1) := by decide +kernel
theorem dX8_wishes_30 : decode cX8_wishes 30 = .ok (.getfield 19, 3) := by decide +kernel
theorem dX8_wishes_33 : decode cX8_wishes 33 = .ok (.iconst 0, 1) := by decide +kernel
theorem dX8_wishes_34 : decode cX8_wishes 34 = .ok (.iload_n 1, 1) := by decide +kernel
theorem dX8_wishes_35 : decode cX8_wishes 35 = .ok (.iadd, 1) := by decide +kernel
theorem dX8_wishes_36 : decode cX8_wishes 36 = .ok (.iaload, 1) := by decide +kernel
theorem dX8_wishes_37 : decode cX8_wishes 37 = .ok (.istore_n 3, 1) := by decide +kernel
theorem dX8_wishes_38 : decode cX8_wishes 38 = .ok (.aload_n 0, 1) := by decide +kernel
theorem dX8_wishes_39 : decode cX8_wishes 39 = .ok (.getfield 19, 3) := by decide +kernel
theorem dX8_wishes_42 : decode cX8_wishes 42 = .ok (.iconst 0, 1) := by decide +kernel
theorem dX8_wishes_43 : decode cX8_wishes 43 = .ok (.iload_n 1, 1) := by decide +kernel
theorem dX8_wishes_44 : decode cX8_wishes 44 = .ok (.iadd, 1) := by decide +kernel
theorem dX8_wishes_45 : decode cX8_wishes 45 = .ok (.iload_n 2, 1) := by decide +kernel
theorem dX8_wishes_46 : decode cX8_wishes 46 = .ok (.iastore, 1) := by decide +kernel
theorem dX8_wishes_47 : decode cX8_wishes 47 = .ok (.iload_n 3, 1) := by decide +kernel
theorem dX8_wishes_48 : decode cX8_wishes 48 = .ok (.ireturn, 1) := by decide +kernel
theorem dX8_cures_0 : decode cX8_cures 0 = .ok (.aload_n 0, 1) := by decide +kernel
theorem dX8_cures_1 : decode cX8_cures 1 = .ok (.iconst 0, 1) := by decide +kernel
theorem dX8_cures_2 : decode cX8_cures 2 = .ok (.putfield 59, 3) := by decide +kernel
theorem dX8_cures_5 : decode cX8_cures 5 = .ok (.aload_n 0, 1) := by decide +kernel
theorem dX8_cures_6 : decode cX8_cures 6 = .ok (.iload_n 1, 1) := by decide +kernel
theorem dX8_cures_7 : decode cX8_cures 7 = .ok (.invokevirtual 147, 3) := by decide +kernel
theorem dX8_cures_10 : decode cX8_cures 10 = .ok (.ifCond .eq 30, 3) := by decide +kernel
theorem dX8_cures_13 : decode cX8_cures 13 = .ok (.iload_n 2, 1) := by decide +kernel
theorem dX8_cures_14 : decode cX8_cures 14 = .ok (.iconst 0, 1) := by decide +kernel
theorem dX8_cures_15 : decode cX8_cures 15 = .ok (.iconst 4, 1) := by decide +kernel
theorem dX8_cures_16 : decode cX8_cures 16 = .ok (.invokestatic 63, 3) := by decide +kernel
theorem dX8_cures_19 : decode cX8_cures 19 = .ok (.ifCond .eq 21, 3) := by decide +kernel
theorem dX8_cures_22 : decode cX8_cures 22 = .ok (.iload_n 3, 1) := by decide +kernel
theorem dX8_cures_23 : decode cX8_cures 23 = .ok (.iconst 0, 1) := by decide +kernel
theorem dX8_cures_24 : decode cX8_cures 24 = .ok (.iload_n 2, 1) := by decide +kernel
theorem dX8_cures_25 : decode cX8_cures 25 = .ok (.iconst 2, 1) := by decide +kernel
theorem dX8_cures_26 : decode cX8_cures 26 = .ok (.if_icmp .ge 7, 3) := by decide +kernel
theorem dX8_cures_29 : decode cX8_cures 29 = .ok (.iconst 3, 1) := by decide +kernel
theorem dX8_cures_30 : decode cX8_cures 30 = .ok (.goto 4, 3) := by decide +kernel
theorem dX8_cures_33 : decode cX8_cures 33 = .ok (.iconst 0, 1) := by decide +kernel
theorem dX8_cures_34 : decode cX8_cures 34 = .ok (.invokestatic 63, 3) := by decide +kernel
theorem dX8_cures_37 : decode cX8_cures 37 = .ok (.ifCond .ne 5, 3) := by decide +kernel
theorem dX8_cures_40 : decode cX8_cures 40 = .ok (.iconst (-1), 1) := by decide +kernel
theorem dX8_cures_41 : decode cX8_cures 41 = .ok (.ireturn, 1) := by decide +kernel
theorem dX8_cures_42 : decode cX8_cures 42 = .ok (.aload_n 0, 1) := by decide +kernel
theorem dX8_cures_43 : decode cX8_cures 43 = .ok (.getfield 19, 3) := by decide +kernel
theorem dX8_cures_46 : decode cX8_cures 46 = .ok (.iconst 3, 1) := by decide +kernel
theorem dX8_cures_47 : decode cX8_cures 47 = .ok (.iload_n 1, 1) := by decide +kernel
theorem dX8_cures_48 : decode cX8_cures 48 = .ok (.iadd, 1) := by decide +kernel
theorem dX8_cures_49 : decode cX8_cures 49 = .ok (.iaload, 1) := by decide +kernel
theorem dX8_cures_50 : decode cX8_cures 50 = .ok (.istore 4, 2) := by decide +kernel
theorem dX8_cures_52 : decode cX8_cures 52 = .ok (.iload 4, 2) := by decide +kernel
theorem dX8_cures_54 : decode cX8_cures 54 = .ok (.iload_n 2, 1) := by decide +kernel
theorem dX8_cures_55 : decode cX8_cures 55 = .ok (.if_icmp .ne 19, 3) := by decide +kernel
theorem dX8_cures_58 : decode cX8_cures 58 = .ok (.aload_n 0, 1) := by decide +kernel
theorem dX8_cures_59 : decode cX8_cures 59 = .ok (.getfield 19, 3) := by decide +kernel
theorem dX8_cures_62 : decode cX8_cures 62 = .ok (.bipush 12, 2) := by decide +kernel
theorem dX8_cures_64 : decode cX8_cures 64 = .ok (.iload_n 1, 1) := by decide +kernel
theorem dX8_cures_65 : decode cX8_cures 65 = .ok (.iadd, 1) := by decide +kernel
theorem dX8_cures_66 : decode cX8_cures 66 = .ok (.iaload, 1) := by decide +kernel
theorem dX8_cures_67 : decode cX8_cures 67 = .ok (.iload_n 3, 1) := by decide +kernel
theorem dX8_cures_68 : decode cX8_cures 68 = .ok (.if_icmp .ne 6, 3) := by decide +kernel
theorem dX8_cures_71 : decode cX8_cures 71 = .ok (.bipush (-2), 2) := by decide +kernel
theorem dX8_cures_73 : decode cX8_cures 73 = .ok (.ireturn, 1) := by decide +kernel
theorem dX8_cures_74 : decode cX8_cures 74 = .ok (.aload_n 0, 1) := by decide +kernel
theorem dX8_cures_75 : decode cX8_cures 75 = .ok (.invokevirtual 157, 3) := by decide +kernel
theorem dX8_cures_78 : decode cX8_cures 78 = .ok (.aload_n 0, 1) := by decide +kernel
theorem dX8_cures_79 : decode cX8_cures 79 = .ok (.getfield 19, 3) := by decide +kernel
theorem dX8_cures_82 : decode cX8_cures 82 = .ok (.iconst 3, 1) := by decide +kernel
theorem dX8_cures_83 : decode cX8_cures 83 = .ok (.iload_n 1, 1) := by decide +kernel
theorem dX8_cures_84 : decode cX8_cures 84 = .ok (.iadd, 1) := by decide +kernel
theorem dX8_cures_85 : decode cX8_cures 85 = .ok (.iload_n 2, 1) := by decide +kernel
theorem dX8_cures_86 : decode cX8_cures 86 = .ok (.iastore, 1) := by decide +kernel
theorem dX8_cures_87 : decode cX8_cures 87 = .ok (.aload_n 0, 1) := by decide +kernel
theorem dX8_cures_88 : decode cX8_cures 88 = .ok (.getfield 19, 3) := by decide +kernel
theorem dX8_cures_91 : decode cX8_cures 91 = .ok (.bipush 12, 2) := by decide +kernel
theorem dX8_cures_93 : decode cX8_cures 93 = .ok (.iload_n 1, 1) := by decide +kernel
theorem dX8_cures_94 : decode cX8_cures 94 = .ok (.iadd, 1) := by decide +kernel
theorem dX8_cures_95 : decode cX8_cures 95 = .ok (.iload_n 3, 1) := by decide +kernel
theorem dX8_cures_96 : decode cX8_cures 96 = .ok (.iastore, 1) := by decide +kernel
theorem dX8_cures_97 : decode cX8_cures 97 = .ok (.iload 4, 2) := by decide +kernel
theorem dX8_cures_99 : decode cX8_cures 99 = .ok (.ireturn, 1) := by decide +kernel
theorem dX8_sticks_0 : decode cX8_sticks 0 = .ok (.aload_n 0, 1) := by decide +kernel
theorem dX8_sticks_1 : decode cX8_sticks 1 = .ok (.iconst 0, 1) := by decide +kernel
theorem dX8_sticks_2 : decode cX8_sticks 2 = .ok (.putfield 59, 3) := by decide +kernel
theorem dX8_sticks_5 : decode cX8_sticks 5 = .ok (.aload_n 0, 1) := by decide +kernel
theorem dX8_sticks_6 : decode cX8_sticks 6 = .ok (.iload_n 1, 1) := by decide +kernel
theorem dX8_sticks_7 : decode cX8_sticks 7 = .ok (.invokevirtual 147, 3) := by decide +kernel
theorem dX8_sticks_10 : decode cX8_sticks 10 = .ok (.ifCond .eq 12, 3) := by decide +kernel
theorem dX8_sticks_13 : decode cX8_sticks 13 = .ok (.iload_n 2, 1) := by decide +kernel
theorem dX8_sticks_14 : decode cX8_sticks 14 = .ok (.iconst 0, 1) := by decide +kernel
theorem dX8_sticks_15 : decode cX8_sticks 15 = .ok (.iconst 2, 1) := by decide +kernel
theorem dX8_sticks_16 : decode cX8_sticks 16 = .ok (.invokestatic 63, 3) := by decide +kernel
theorem dX8_sticks_19 : decode cX8_sticks 19 = .ok (.ifCond .ne 5, 3) := by decide +kernel
theorem dX8_sticks_22 : decode cX8_sticks 22 = .ok (.iconst (-1), 1) := by decide +kernel
theorem dX8_sticks_23 : decode cX8_sticks 23 = .ok (.ireturn, 1) := by decide +kernel
theorem dX8_sticks_24 : decode cX8_sticks 24 = .ok (.aload_n 0, 1) := by decide +kernel
theorem dX8_sticks_25 : decode cX8_sticks 25 = .ok (.getfield 19, 3) := by decide +kernel
theorem dX8_sticks_28 : decode cX8_sticks 28 = .ok (.bipush 21, 2) := by decide +kernel
theorem dX8_sticks_30 : decode cX8_sticks 30 = .ok (.iload_n 1, 1) := by decide +kernel
theorem dX8_sticks_31 : decode cX8_sticks 31 = .ok (.iadd, 1) := by decide +kernel
theorem dX8_sticks_32 : decode cX8_sticks 32 = .ok (.iaload, 1) := by decide +kernel
theorem dX8_sticks_33 : decode cX8_sticks 33 = .ok (.istore_n 3, 1) := by decide +kernel
theorem dX8_sticks_34 : decode cX8_sticks 34 = .ok (.iload_n 3, 1) := by decide +kernel
theorem dX8_sticks_35 : decode cX8_sticks 35 = .ok (.iload_n 2, 1) := by decide +kernel
theorem dX8_sticks_36 : decode cX8_sticks 36 = .ok (.if_icmp .ne 6, 3) := by decide +kernel
theorem dX8_sticks_39 : decode cX8_sticks 39 = .ok (.bipush (-2), 2) := by decide +kernel
theorem dX8_sticks_41 : decode cX8_sticks 41 = .ok (.ireturn, 1) := by decide +kernel
theorem dX8_sticks_42 : decode cX8_sticks 42 = .ok (.aload_n 0, 1) := by decide +kernel
theorem dX8_sticks_43 : decode cX8_sticks 43 = .ok (.invokevirtual 157, 3) := by decide +kernel
theorem dX8_sticks_46 : decode cX8_sticks 46 = .ok (.aload_n 0, 1) := by decide +kernel
theorem dX8_sticks_47 : decode cX8_sticks 47 = .ok (.getfield 19, 3) := by decide +kernel
theorem dX8_sticks_50 : decode cX8_sticks 50 = .ok (.bipush 21, 2) := by decide +kernel
theorem dX8_sticks_52 : decode cX8_sticks 52 = .ok (.iload_n 1, 1) := by decide +kernel
theorem dX8_sticks_53 : decode cX8_sticks 53 = .ok (.iadd, 1) := by decide +kernel
theorem dX8_sticks_54 : decode cX8_sticks 54 = .ok (.iload_n 2, 1) := by decide +kernel
theorem dX8_sticks_55 : decode cX8_sticks 55 = .ok (.iastore, 1) := by decide +kernel
theorem dX8_sticks_56 : decode cX8_sticks 56 = .ok (.iload_n 3, 1) := by decide +kernel
theorem dX8_sticks_57 : decode cX8_sticks 57 = .ok (.ireturn, 1) := by decide +kernel
theorem dX8_undo_0 : decode cX8_undo 0 = .ok (.aload_n 0, 1) := by decide +kernel
theorem dX8_undo_1 : decode cX8_undo 1 = .ok (.iconst 0, 1) := by decide +kernel
theorem dX8_undo_2 : decode cX8_undo 2 = .ok (.putfield 59, 3) := by decide +kernel
theorem dX8_undo_5 : decode cX8_undo 5 = .ok (.aload_n 0, 1) := by decide +kernel
theorem dX8_undo_6 : decode cX8_undo 6 = .ok (.getfield 127, 3) := by decide +kernel
theorem dX8_undo_9 : decode cX8_undo 9 = .ok (.ifCond .ne 6, 3) := by decide +kernel
theorem dX8_undo_12 : decode cX8_undo 12 = .ok (.bipush (-2), 2) := by decide +kernel
theorem dX8_undo_14 : decode cX8_undo 14 = .ok (.ireturn, 1) := by decide +kernel
theorem dX8_undo_15 : decode cX8_undo 15 = .ok (.aload_n 0, 1) := by decide +kernel
theorem dX8_undo_16 : decode cX8_undo 16 = .ok (.dup, 1) := by decide +kernel
theorem dX8_undo_17 : decode cX8_undo 17 = .ok (.getfield 127, 3) := by decide +kernel
theorem dX8_undo_20 : decode cX8_undo 20 = .ok (.iconst 1, 1) := by decide +kernel
theorem dX8_undo_21 : decode cX8_undo 21 = .ok (.isub, 1) := by decide +kernel
theorem dX8_undo_22 : decode cX8_undo 22 = .ok (.putfield 127, 3) := by decide +kernel
theorem dX8_undo_25 : decode cX8_undo 25 = .ok (.iconst 0, 1) := by decide +kernel
theorem dX8_undo_26 : decode cX8_undo 26 = .ok (.istore_n 1, 1) := by decide +kernel
theorem dX8_undo_27 : decode cX8_undo 27 = .ok (.iload_n 1, 1) := by decide +kernel
theorem dX8_undo_28 : decode cX8_undo 28 = .ok (.bipush 30, 2) := by decide +kernel
theorem dX8_undo_30 : decode cX8_undo 30 = .ok (.if_icmp .ge 29, 3) := by decide +kernel
theorem dX8_undo_33 : decode cX8_undo 33 = .ok (.aload_n 0, 1) := by decide +kernel
theorem dX8_undo_34 : decode cX8_undo 34 = .ok (.getfield 19, 3) := by decide +kernel
theorem dX8_undo_37 : decode cX8_undo 37 = .ok (.iload_n 1, 1) := by decide +kernel
theorem dX8_undo_38 : decode cX8_undo 38 = .ok (.aload_n 0, 1) := by decide +kernel
theorem dX8_undo_39 : decode cX8_undo 39 = .ok (.getfield 22, 3) := by decide +kernel
theorem dX8_undo_42 : decode cX8_undo 42 = .ok (.bipush 30, 2) := by decide +kernel
theorem dX8_undo_44 : decode cX8_undo 44 = .ok (.aload_n 0, 1) := by decide +kernel
theorem dX8_undo_45 : decode cX8_undo 45 = .ok (.getfield 127, 3) := by decide +kernel
theorem dX8_undo_48 : decode cX8_undo 48 = .ok (.imul, 1) := by decide +kernel
theorem dX8_undo_49 : decode cX8_undo 49 = .ok (.iload_n 1, 1) := by decide +kernel
theorem dX8_undo_50 : decode cX8_undo 50 = .ok (.iadd, 1) := by decide +kernel
theorem dX8_undo_51 : decode cX8_undo 51 = .ok (.iaload, 1) := by decide +kernel
theorem dX8_undo_52 : decode cX8_undo 52 = .ok (.iastore, 1) := by decide +kernel
theorem dX8_undo_53 : decode cX8_undo 53 = .ok (.iinc 1 1, 3) := by decide +kernel
theorem dX8_undo_56 : decode cX8_undo 56 = .ok (.goto (-29), 3) := by decide +kernel
theorem dX8_undo_59 : decode cX8_undo 59 = .ok (.aload_n 0, 1) := by decide +kernel
theorem dX8_undo_60 : decode cX8_undo 60 = .ok (.getfield 127, 3) := by decide +kernel
theorem dX8_undo_63 : decode cX8_undo 63 = .ok (.ireturn, 1) := by decide +kernel
theorem dX8_toBy_0 : decode cX8_toBy 0 = .ok (.aload_n 0, 1) := by decide +kernel
theorem dX8_toBy_1 : decode cX8_toBy 1 = .ok (.getfield 13, 3) := by decide +kernel
theorem dX8_toBy_4 : decode cX8_toBy 4 = .ok (.bipush 12, 2) := by decide +kernel
theorem dX8_toBy_6 : decode cX8_toBy 6 = .ok (.iload_n 1, 1) := by decide +kernel
theorem dX8_toBy_7 : decode cX8_toBy 7 = .ok (.iadd, 1) := by decide +kernel
theorem dX8_toBy_8 : decode cX8_toBy 8 = .ok (.iaload, 1) := by decide +kernel
theorem dX8_toBy_9 : decode cX8_toBy 9 = .ok (.iload_n 2, 1) := by decide +kernel
theorem dX8_toBy_10 : decode cX8_toBy 10 = .ok (.if_icmp .ne 22, 3) := by decide +kernel
theorem dX8_toBy_13 : decode cX8_toBy 13 = .ok (.aload_n 0, 1) := by decide +kernel
theorem dX8_toBy_14 : decode cX8_toBy 14 = .ok (.iload_n 1, 1) := by decide +kernel
theorem dX8_toBy_15 : decode cX8_toBy 15 = .ok (.iconst 0, 1) := by decide +kernel
theorem dX8_toBy_16 : decode cX8_toBy 16 = .ok (.invokevirtual 136, 3) := by decide +kernel
theorem dX8_toBy_19 : decode cX8_toBy 19 = .ok (.ifCond .eq 13, 3) := by decide +kernel
theorem dX8_toBy_22 : decode cX8_toBy 22 = .ok (.aload_n 0, 1) := by decide +kernel
theorem dX8_toBy_23 : decode cX8_toBy 23 = .ok (.getfield 13, 3) := by decide +kernel
theorem dX8_toBy_26 : decode cX8_toBy 26 = .ok (.bipush 21, 2) := by decide +kernel
theorem dX8_toBy_28 : decode cX8_toBy 28 = .ok (.iload_n 1, 1) := by decide +kernel
theorem dX8_toBy_29 : decode cX8_toBy 29 = .ok (.iadd, 1) := by decide +kernel
theorem dX8_toBy_30 : decode cX8_toBy 30 = .ok (.iaload, 1) := by decide +kernel
theorem dX8_toBy_31 : decode cX8_toBy 31 = .ok (.ireturn, 1) := by decide +kernel
theorem dX8_toBy_32 : decode cX8_toBy 32 = .ok (.aload_n 0, 1) := by decide +kernel
theorem dX8_toBy_33 : decode cX8_toBy 33 = .ok (.getfield 13, 3) := by decide +kernel
theorem dX8_toBy_36 : decode cX8_toBy 36 = .ok (.bipush 21, 2) := by decide +kernel
theorem dX8_toBy_38 : decode cX8_toBy 38 = .ok (.iload_n 1, 1) := by decide +kernel
theorem dX8_toBy_39 : decode cX8_toBy 39 = .ok (.iadd, 1) := by decide +kernel
theorem dX8_toBy_40 : decode cX8_toBy 40 = .ok (.iaload, 1) := by decide +kernel
theorem dX8_toBy_41 : decode cX8_toBy 41 = .ok (.iload_n 2, 1) := by decide +kernel
theorem dX8_toBy_42 : decode cX8_toBy 42 = .ok (.if_icmp .ne 24, 3) := by decide +kernel
theorem dX8_toBy_45 : decode cX8_toBy 45 = .ok (.aload_n 0, 1) := by decide +kernel
theorem dX8_toBy_46 : decode cX8_toBy 46 = .ok (.iload_n 1, 1) := by decide +kernel
theorem dX8_toBy_47 : decode cX8_toBy 47 = .ok (.iconst 1, 1) := by decide +kernel
theorem dX8_toBy_48 : decode cX8_toBy 48 = .ok (.invokevirtual 136, 3) := by decide +kernel
theorem dX8_toBy_51 : decode cX8_toBy 51 = .ok (.ifCond .eq 15, 3) := by decide +kernel
theorem dX8_toBy_54 : decode cX8_toBy 54 = .ok (.aload_n 0, 1) := by decide +kernel
theorem dX8_toBy_55 : decode cX8_toBy 55 = .ok (.getfield 13, 3) := by decide +kernel
theorem dX8_toBy_58 : decode cX8_toBy 58 = .ok (.bipush 12, 2) := by decide +kernel
theorem dX8_toBy_60 : decode cX8_toBy 60 = .ok (.iload_n 1, 1) := by decide +kernel
theorem dX8_toBy_61 : decode cX8_toBy 61 = .ok (.iadd, 1) := by decide +kernel
theorem dX8_toBy_62 : decode cX8_toBy 62 = .ok (.iaload, 1) := by decide +kernel
theorem dX8_toBy_63 : decode cX8_toBy 63 = .ok (.goto 5, 3) := by decide +kernel
theorem dX8_toBy_66 : decode cX8_toBy 66 = .ok (.bipush (-9), 2) := by decide +kernel
theorem dX8_toBy_68 : decode cX8_toBy 68 = .ok (.ireturn, 1) := by decide +kernel
theorem dX8_isOnPath_0 : decode cX8_isOnPath 0 = .ok (.iconst 0, 1) := by decide +kernel
theorem dX8_isOnPath_1 : decode cX8_isOnPath 1 = .ok (.istore_n 2, 1) := by decide +kernel
theorem dX8_isOnPath_2 : decode cX8_isOnPath 2 = .ok (.iconst 0, 1) := by decide +kernel
theorem dX8_isOnPath_3 : decode cX8_isOnPath 3 = .ok (.istore_n 3, 1) := by decide +kernel
theorem dX8_isOnPath_4 : decode cX8_isOnPath 4 = .ok (.iload_n 3, 1) := by decide +kernel
theorem dX8_isOnPath_5 : decode cX8_isOnPath 5 = .ok (.aload_n 0, 1) := by decide +kernel
theorem dX8_isOnPath_6 : decode cX8_isOnPath 6 = .ok (.getfield 160, 3) := by decide +kernel
theorem dX8_isOnPath_9 : decode cX8_isOnPath 9 = .ok (.if_icmp .gt 29, 3) := by decide +kernel
theorem dX8_isOnPath_12 : decode cX8_isOnPath 12 = .ok (.iload_n 2, 1) := by decide +kernel
theorem dX8_isOnPath_13 : decode cX8_isOnPath 13 = .ok (.ifCond .ne 13, 3) := by decide +kernel
theorem dX8_isOnPath_16 : decode cX8_isOnPath 16 = .ok (.aload_n 0, 1) := by decide +kernel
theorem dX8_isOnPath_17 : decode cX8_isOnPath 17 = .ok (.getfield 44, 3) := by decide +kernel
theorem dX8_isOnPath_20 : decode cX8_isOnPath 20 = .ok (.iload_n 3, 1) := by decide +kernel
theorem dX8_isOnPath_21 : decode cX8_isOnPath 21 = .ok (.iaload, 1) := by decide +kernel
theorem dX8_isOnPath_22 : decode cX8_isOnPath 22 = .ok (.iload_n 1, 1) := by decide +kernel
theorem dX8_isOnPath_23 : decode cX8_isOnPath 23 = .ok (.if_icmp .ne 7, 3) := by decide +kernel
theorem dX8_isOnPath_26 : decode cX8_isOnPath 26 = .ok (.iconst 1, 1) := by decide +kernel
theorem dX8_isOnPath_27 : decode cX8_isOnPath 27 = .ok (.goto 4, 3) := by decide +kernel
theorem dX8_isOnPath_30 : decode cX8_isOnPath 30 = .ok (.iconst 0, 1) := by decide +kernel
theorem dX8_isOnPath_31 : decode cX8_isOnPath 31 = .ok (.istore_n 2, 1) := by decide +kernel
theorem dX8_isOnPath_32 : decode cX8_isOnPath 32 = .ok (.iinc 3 1, 3) := by decide +kernel
theorem dX8_isOnPath_35 : decode cX8_isOnPath 35 = .ok (.goto (-31), 3) := by decide +kernel
theorem dX8_isOnPath_38 : decode cX8_isOnPath 38 = .ok (.iload_n 2, 1) := by decide +kernel
theorem dX8_isOnPath_39 : decode cX8_isOnPath 39 = .ok (.ireturn, 1) := by decide +kernel
theorem dX8_beginsPath_0 : decode cX8_beginsPath 0 = .ok (.aload_n 0, 1) := by decide +kernel
theorem dX8_beginsPath_1 : decode cX8_beginsPath 1 = .ok (.iconst 0, 1) := by decide +kernel
theorem dX8_beginsPath_2 : decode cX8_beginsPath 2 = .ok (.putfield 160, 3) := by decide +kernel
theorem dX8_beginsPath_5 : decode cX8_beginsPath 5 = .ok (.aload_n 0, 1) := by decide +kernel
theorem dX8_beginsPath_6 : decode cX8_beginsPath 6 = .ok (.getfield 44, 3) := by decide +kernel
theorem dX8_beginsPath_9 : decode cX8_beginsPath 9 = .ok (.iconst 0, 1) := by decide +kernel
theorem dX8_beginsPath_10 : decode cX8_beginsPath 10 = .ok (.iconst 0, 1) := by decide +kernel
theorem dX8_beginsPath_11 : decode cX8_beginsPath 11 = .ok (.iastore, 1) := by decide +kernel
theorem dX8_beginsPath_12 : decode cX8_beginsPath 12 = .ok (.aload_n 0, 1) := by decide +kernel
theorem dX8_beginsPath_13 : decode cX8_beginsPath 13 = .ok (.getfield 41, 3) := by decide +kernel
theorem dX8_beginsPath_16 : decode cX8_beginsPath 16 = .ok (.iconst 0, 1) := by decide +kernel
theorem dX8_beginsPath_17 : decode cX8_beginsPath 17 = .ok (.iconst (-1), 1) := by decide +kernel
theorem dX8_beginsPath_18 : decode cX8_beginsPath 18 = .ok (.iastore, 1) := by decide +kernel
theorem dX8_beginsPath_19 : decode cX8_beginsPath 19 = .ok (.return_, 1) := by decide +kernel
theorem dX8_nextPath_0 : decode cX8_nextPath 0 = .ok (.aload_n 0, 1) := by decide +kernel
theorem dX8_nextPath_1 : decode cX8_nextPath 1 = .ok (.getfield 44, 3) := by decide +kernel
theorem dX8_nextPath_4 : decode cX8_nextPath 4 = .ok (.aload_n 0, 1) := by decide +kernel
theorem dX8_nextPath_5 : decode cX8_nextPath 5 = .ok (.getfield 160, 3) := by decide +kernel
theorem dX8_nextPath_8 : decode cX8_nextPath 8 = .ok (.iaload, 1) := by decide +kernel
theorem dX8_nextPath_9 : decode cX8_nextPath 9 = .ok (.iload_n 1, 1) := by decide +kernel
theorem dX8_nextPath_10 : decode cX8_nextPath 10 = .ok (.if_icmp .ne 13, 3) := by decide +kernel
theorem dX8_nextPath_13 : decode cX8_nextPath 13 = .ok (.aload_n 0, 1) := by decide +kernel
theorem dX8_nextPath_14 : decode cX8_nextPath 14 = .ok (.dup, 1) := by decide +kernel
theorem dX8_nextPath_15 : decode cX8_nextPath 15 = .ok (.getfield 160, 3) := by decide +kernel
theorem dX8_nextPath_18 : decode cX8_nextPath 18 = .ok (.iconst 1, 1) := by decide +kernel
theorem dX8_nextPath_19 : decode cX8_nextPath 19 = .ok (.isub, 1) := by decide +kernel
theorem dX8_nextPath_20 : decode cX8_nextPath 20 = .ok (.putfield 160, 3) := by decide +kernel
theorem dX8_nextPath_23 : decode cX8_nextPath 23 = .ok (.aload_n 0, 1) := by decide +kernel
theorem dX8_nextPath_24 : decode cX8_nextPath 24 = .ok (.getfield 160, 3) := by decide +kernel
theorem dX8_nextPath_27 : decode cX8_nextPath 27 = .ok (.ifCond .lt 147, 3) := by decide +kernel
theorem dX8_nextPath_30 : decode cX8_nextPath 30 = .ok (.aload_n 0, 1) := by decide +kernel
theorem dX8_nextPath_31 : decode cX8_nextPath 31 = .ok (.getfield 41, 3) := by decide +kernel
theorem dX8_nextPath_34 : decode cX8_nextPath 34 = .ok (.aload_n 0, 1) := by decide +kernel
theorem dX8_nextPath_35 : decode cX8_nextPath 35 = .ok (.getfield 160, 3) := by decide +kernel
theorem dX8_nextPath_38 : decode cX8_nextPath 38 = .ok (.iaload, 1) := by decide +kernel
theorem dX8_nextPath_39 : decode cX8_nextPath 39 = .ok (.iconst 1, 1) := by decide +kernel
theorem dX8_nextPath_40 : decode cX8_nextPath 40 = .ok (.iadd, 1) := by decide +kernel
theorem dX8_nextPath_41 : decode cX8_nextPath 41 = .ok (.istore_n 2, 1) := by decide +kernel
theorem dX8_nextPath_42 : decode cX8_nextPath 42 = .ok (.bipush (-9), 2) := by decide +kernel
theorem dX8_nextPath_44 : decode cX8_nextPath 44 = .ok (.istore_n 3, 1) := by decide +kernel
theorem dX8_nextPath_45 : decode cX8_nextPath 45 = .ok (.iload_n 2, 1) := by decide +kernel
theorem dX8_nextPath_46 : decode cX8_nextPath 46 = .ok (.aload_n 0, 1) := by decide +kernel
theorem dX8_nextPath_47 : decode cX8_nextPath 47 = .ok (.getfield 13, 3) := by decide +kernel
theorem dX8_nextPath_50 : decode cX8_nextPath 50 = .ok (.iconst 1, 1) := by decide +kernel
theorem dX8_nextPath_51 : decode cX8_nextPath 51 = .ok (.iaload, 1) := by decide +kernel
theorem dX8_nextPath_52 : decode cX8_nextPath 52 = .ok (.if_icmp .ge 51, 3) := by decide +kernel
theorem dX8_nextPath_55 : decode cX8_nextPath 55 = .ok (.iload_n 3, 1) := by decide +kernel
theorem dX8_nextPath_56 : decode cX8_nextPath 56 = .ok (.bipush (-9), 2) := by decide +kernel
theorem dX8_nextPath_58 : decode cX8_nextPath 58 = .ok (.if_icmp .ne 45, 3) := by decide +kernel
theorem dX8_nextPath_61 : decode cX8_nextPath 61 = .ok (.aload_n 0, 1) := by decide +kernel
theorem dX8_nextPath_62 : decode cX8_nextPath 62 = .ok (.iload_n 2, 1) := by decide +kernel
theorem dX8_nextPath_63 : decode cX8_nextPath 63 = .ok (.aload_n 0, 1) := by decide +kernel
theorem dX8_nextPath_64 : decode cX8_nextPath 64 = .ok (.getfield 44, 3) := by decide +kernel
theorem dX8_nextPath_67 : decode cX8_nextPath 67 = .ok (.aload_n 0, 1) := by decide +kernel
theorem dX8_nextPath_68 : decode cX8_nextPath 68 = .ok (.getfield 160, 3) := by decide +kernel
theorem dX8_nextPath_71 : decode cX8_nextPath 71 = .ok (.iaload, 1) := by decide +kernel
theorem dX8_nextPath_72 : decode cX8_nextPath 72 = .ok (.invokevirtual 163, 3) := by decide +kernel
theorem dX8_nextPath_75 : decode cX8_nextPath 75 = .ok (.istore_n 3, 1) := by decide +kernel
theorem dX8_nextPath_76 : decode cX8_nextPath 76 = .ok (.iload_n 3, 1) := by decide +kernel
theorem dX8_nextPath_77 : decode cX8_nextPath 77 = .ok (.bipush (-9), 2) := by decide +kernel
theorem dX8_nextPath_79 : decode cX8_nextPath 79 = .ok (.if_icmp .eq 16, 3) := by decide +kernel
theorem dX8_nextPath_82 : decode cX8_nextPath 82 = .ok (.aload_n 0, 1) := by decide +kernel
theorem dX8_nextPath_83 : decode cX8_nextPath 83 = .ok (.iload_n 3, 1) := by decide +kernel
theorem dX8_nextPath_84 : decode cX8_nextPath 84 = .ok (.invokevirtual 166, 3) := by decide +kernel
theorem dX8_nextPath_87 : decode cX8_nextPath 87 = .ok (.ifCond .eq 8, 3) := by decide +kernel
theorem dX8_nextPath_90 : decode cX8_nextPath 90 = .ok (.bipush (-9), 2) := by decide +kernel
theorem dX8_nextPath_92 : decode cX8_nextPath 92 = .ok (.goto 4, 3) := by decide +kernel
theorem dX8_nextPath_95 : decode cX8_nextPath 95 = .ok (.iload_n 3, 1) := by decide +kernel
theorem dX8_nextPath_96 : decode cX8_nextPath 96 = .ok (.istore_n 3, 1) := by decide +kernel
theorem dX8_nextPath_97 : decode cX8_nextPath 97 = .ok (.iinc 2 1, 3) := by decide +kernel
theorem dX8_nextPath_100 : decode cX8_nextPath 100 = .ok (.goto (-55), 3) := by decide +kernel
theorem dX8_nextPath_103 : decode cX8_nextPath 103 = .ok (.aload_n 0, 1) := by decide +kernel
theorem dX8_nextPath_104 : decode cX8_nextPath 104 = .ok (.getfield 41, 3) := by decide +kernel
theorem dX8_nextPath_107 : decode cX8_nextPath 107 = .ok (.aload_n 0, 1) := by decide +kernel
theorem dX8_nextPath_108 : decode cX8_nextPath 108 = .ok (.getfield 160, 3) := by decide +kernel
theorem dX8_nextPath_111 : decode cX8_nextPath 111 = .ok (.iload_n 2, 1) := by decide +kernel
theorem dX8_nextPath_112 : decode cX8_nextPath 112 = .ok (.iconst 1, 1) := by decide +kernel
theorem dX8_nextPath_113 : decode cX8_nextPath 113 = .ok (.isub, 1) := by decide +kernel
theorem dX8_nextPath_114 : decode cX8_nextPath 114 = .ok (.iastore, 1) := by decide +kernel
theorem dX8_nextPath_115 : decode cX8_nextPath 115 = .ok (.iload_n 3, 1) := by decide +kernel
theorem dX8_nextPath_116 : decode cX8_nextPath 116 = .ok (.bipush (-9), 2) := by decide +kernel
theorem dX8_nextPath_118 : decode cX8_nextPath 118 = .ok (.if_icmp .ne 16, 3) := by decide +kernel
theorem dX8_nextPath_121 : decode cX8_nextPath 121 = .ok (.aload_n 0, 1) := by decide +kernel
theorem dX8_nextPath_122 : decode cX8_nextPath 122 = .ok (.dup, 1) := by decide +kernel
theorem dX8_nextPath_123 : decode cX8_nextPath 123 = .ok (.getfield 160, 3) := by decide +kernel
theorem dX8_nextPath_126 : decode cX8_nextPath 126 = .ok (.iconst 1, 1) := by decide +kernel
theorem dX8_nextPath_127 : decode cX8_nextPath 127 = .ok (.isub, 1) := by decide +kernel
theorem dX8_nextPath_128 : decode cX8_nextPath 128 = .ok (.putfield 160, 3) := by decide +kernel
theorem dX8_nextPath_131 : decode cX8_nextPath 131 = .ok (.goto 40, 3) := by decide +kernel
theorem dX8_nextPath_134 : decode cX8_nextPath 134 = .ok (.aload_n 0, 1) := by decide +kernel
theorem dX8_nextPath_135 : decode cX8_nextPath 135 = .ok (.dup, 1) := by decide +kernel
theorem dX8_nextPath_136 : decode cX8_nextPath 136 = .ok (.getfield 160, 3) := by decide +kernel
theorem dX8_nextPath_139 : decode cX8_nextPath 139 = .ok (.iconst 1, 1) := by decide +kernel
theorem dX8_nextPath_140 : decode cX8_nextPath 140 = .ok (.iadd, 1) := by decide +kernel
theorem dX8_nextPath_141 : decode cX8_nextPath 141 = .ok (.putfield 160, 3) := by decide +kernel
theorem dX8_nextPath_144 : decode cX8_nextPath 144 = .ok (.aload_n 0, 1) := by decide +kernel
theorem dX8_nextPath_145 : decode cX8_nextPath 145 = .ok (.getfield 44, 3) := by decide +kernel
theorem dX8_nextPath_148 : decode cX8_nextPath 148 = .ok (.aload_n 0, 1) := by decide +kernel
theorem dX8_nextPath_149 : decode cX8_nextPath 149 = .ok (.getfield 160, 3) := by decide +kernel
theorem dX8_nextPath_152 : decode cX8_nextPath 152 = .ok (.iload_n 3, 1) := by decide +kernel
theorem dX8_nextPath_153 : decode cX8_nextPath 153 = .ok (.iastore, 1) := by decide +kernel
theorem dX8_nextPath_154 : decode cX8_nextPath 154 = .ok (.aload_n 0, 1) := by decide +kernel
theorem dX8_nextPath_155 : decode cX8_nextPath 155 = .ok (.getfield 41, 3) := by decide +kernel
theorem dX8_nextPath_158 : decode cX8_nextPath 158 = .ok (.aload_n 0, 1) := by decide +kernel
theorem dX8_nextPath_159 : decode cX8_nextPath 159 = .ok (.getfield 160, 3) := by decide +kernel
theorem dX8_nextPath_162 : decode cX8_nextPath 162 = .ok (.iconst (-1), 1) := by decide +kernel
theorem dX8_nextPath_163 : decode cX8_nextPath 163 = .ok (.iastore, 1) := by decide +kernel
theorem dX8_nextPath_164 : decode cX8_nextPath 164 = .ok (.iload_n 3, 1) := by decide +kernel
theorem dX8_nextPath_165 : decode cX8_nextPath 165 = .ok (.iload_n 1, 1) := by decide +kernel
theorem dX8_nextPath_166 : decode cX8_nextPath 166 = .ok (.if_icmp .ne 5, 3) := by decide +kernel
theorem dX8_nextPath_169 : decode cX8_nextPath 169 = .ok (.iconst 1, 1) := by decide +kernel
theorem dX8_nextPath_170 : decode cX8_nextPath 170 = .ok (.ireturn, 1) := by decide +kernel
theorem dX8_nextPath_171 : decode cX8_nextPath 171 = .ok (.goto (-148), 3) := by decide +kernel
theorem dX8_nextPath_174 : decode cX8_nextPath 174 = .ok (.iconst 0, 1) := by decide +kernel
theorem dX8_nextPath_175 : decode cX8_nextPath 175 = .ok (.ireturn, 1) := by decide +kernel
theorem dX8_pathMany_0 : decode cX8_pathMany 0 = .ok (.iconst 0, 1) := by decide +kernel
theorem dX8_pathMany_1 : decode cX8_pathMany 1 = .ok (.istore_n 2, 1) := by decide +kernel
theorem dX8_pathMany_2 : decode cX8_pathMany 2 = .ok (.aload_n 0, 1) := by decide +kernel
theorem dX8_pathMany_3 : decode cX8_pathMany 3 = .ok (.invokevirtual 169, 3) := by decide +kernel
theorem dX8_pathMany_6 : decode cX8_pathMany 6 = .ok (.aload_n 0, 1) := by decide +kernel
theorem dX8_pathMany_7 : decode cX8_pathMany 7 = .ok (.aload_n 0, 1) := by decide +kernel
theorem dX8_pathMany_8 : decode cX8_pathMany 8 = .ok (.getfield 13, 3) := by decide +kernel
theorem dX8_pathMany_11 : decode cX8_pathMany 11 = .ok (.bipush 39, 2) := by decide +kernel
theorem dX8_pathMany_13 : decode cX8_pathMany 13 = .ok (.iload_n 1, 1) := by decide +kernel
theorem dX8_pathMany_14 : decode cX8_pathMany 14 = .ok (.iadd, 1) := by decide +kernel
theorem dX8_pathMany_15 : decode cX8_pathMany 15 = .ok (.iaload, 1) := by decide +kernel
theorem dX8_pathMany_16 : decode cX8_pathMany 16 = .ok (.invokevirtual 172, 3) := by decide +kernel
theorem dX8_pathMany_19 : decode cX8_pathMany 19 = .ok (.ifCond .eq 9, 3) := by decide +kernel
theorem dX8_pathMany_22 : decode cX8_pathMany 22 = .ok (.iinc 2 1, 3) := by decide +kernel
theorem dX8_pathMany_25 : decode cX8_pathMany 25 = .ok (.goto (-19), 3) := by decide +kernel
theorem dX8_pathMany_28 : decode cX8_pathMany 28 = .ok (.iload_n 2, 1) := by decide +kernel
theorem dX8_pathMany_29 : decode cX8_pathMany 29 = .ok (.ireturn, 1) := by decide +kernel
theorem dX8_shutIn_0 : decode cX8_shutIn 0 = .ok (.iconst 0, 1) := by decide +kernel
theorem dX8_shutIn_1 : decode cX8_shutIn 1 = .ok (.istore_n 1, 1) := by decide +kernel
theorem dX8_shutIn_2 : decode cX8_shutIn 2 = .ok (.iconst 0, 1) := by decide +kernel
theorem dX8_shutIn_3 : decode cX8_shutIn 3 = .ok (.istore_n 2, 1) := by decide +kernel
theorem dX8_shutIn_4 : decode cX8_shutIn 4 = .ok (.iload_n 2, 1) := by decide +kernel
theorem dX8_shutIn_5 : decode cX8_shutIn 5 = .ok (.bipush 16, 2) := by decide +kernel
theorem dX8_shutIn_7 : decode cX8_shutIn 7 = .ok (.if_icmp .ge 68, 3) := by decide +kernel
theorem dX8_shutIn_10 : decode cX8_shutIn 10 = .ok (.iconst 1, 1) := by decide +kernel
theorem dX8_shutIn_11 : decode cX8_shutIn 11 = .ok (.istore_n 3, 1) := by decide +kernel
theorem dX8_shutIn_12 : decode cX8_shutIn 12 = .ok (.iconst 0, 1) := by decide +kernel
theorem dX8_shutIn_13 : decode cX8_shutIn 13 = .ok (.istore 4, 2) := by decide +kernel
theorem dX8_shutIn_15 : decode cX8_shutIn 15 = .ok (.iload 4, 2) := by decide +kernel
theorem dX8_shutIn_17 : decode cX8_shutIn 17 = .ok (.aload_n 0, 1) := by decide +kernel
theorem dX8_shutIn_18 : decode cX8_shutIn 18 = .ok (.getfield 160, 3) := by decide +kernel
theorem dX8_shutIn_21 : decode cX8_shutIn 21 = .ok (.if_icmp .ge 34, 3) := by decide +kernel
theorem dX8_shutIn_24 : decode cX8_shutIn 24 = .ok (.iload_n 3, 1) := by decide +kernel
theorem dX8_shutIn_25 : decode cX8_shutIn 25 = .ok (.ifCond .eq 22, 3) := by decide +kernel
theorem dX8_shutIn_28 : decode cX8_shutIn 28 = .ok (.aload_n 0, 1) := by decide +kernel
theorem dX8_shutIn_29 : decode cX8_shutIn 29 = .ok (.aload_n 0, 1) := by decide +kernel
theorem dX8_shutIn_30 : decode cX8_shutIn 30 = .ok (.getfield 41, 3) := by decide +kernel
theorem dX8_shutIn_33 : decode cX8_shutIn 33 = .ok (.iload 4, 2) := by decide +kernel
theorem dX8_shutIn_35 : decode cX8_shutIn 35 = .ok (.iaload, 1) := by decide +kernel
theorem dX8_shutIn_36 : decode cX8_shutIn 36 = .ok (.iload_n 2, 1) := by decide +kernel
theorem dX8_shutIn_37 : decode cX8_shutIn 37 = .ok (.invokevirtual 133, 3) := by decide +kernel
theorem dX8_shutIn_40 : decode cX8_shutIn 40 = .ok (.ifCond .eq 7, 3) := by decide +kernel
theorem dX8_shutIn_43 : decode cX8_shutIn 43 = .ok (.iconst 1, 1) := by decide +kernel
theorem dX8_shutIn_44 : decode cX8_shutIn 44 = .ok (.goto 4, 3) := by decide +kernel
theorem dX8_shutIn_47 : decode cX8_shutIn 47 = .ok (.iconst 0, 1) := by decide +kernel
theorem dX8_shutIn_48 : decode cX8_shutIn 48 = .ok (.istore_n 3, 1) := by decide +kernel
theorem dX8_shutIn_49 : decode cX8_shutIn 49 = .ok (.iinc 4 1, 3) := by decide +kernel
theorem dX8_shutIn_52 : decode cX8_shutIn 52 = .ok (.goto (-37), 3) := by decide +kernel
theorem dX8_shutIn_55 : decode cX8_shutIn 55 = .ok (.iload_n 1, 1) := by decide +kernel
theorem dX8_shutIn_56 : decode cX8_shutIn 56 = .ok (.iload_n 3, 1) := by decide +kernel
theorem dX8_shutIn_57 : decode cX8_shutIn 57 = .ok (.ifCond .eq 9, 3) := by decide +kernel
theorem dX8_shutIn_60 : decode cX8_shutIn 60 = .ok (.iconst 1, 1) := by decide +kernel
theorem dX8_shutIn_61 : decode cX8_shutIn 61 = .ok (.iload_n 2, 1) := by decide +kernel
theorem dX8_shutIn_62 : decode cX8_shutIn 62 = .ok (.ishl, 1) := by decide +kernel
theorem dX8_shutIn_63 : decode cX8_shutIn 63 = .ok (.goto 4, 3) := by decide +kernel
theorem dX8_shutIn_66 : decode cX8_shutIn 66 = .ok (.iconst 0, 1) := by decide +kernel
theorem dX8_shutIn_67 : decode cX8_shutIn 67 = .ok (.ior, 1) := by decide +kernel
theorem dX8_shutIn_68 : decode cX8_shutIn 68 = .ok (.istore_n 1, 1) := by decide +kernel
theorem dX8_shutIn_69 : decode cX8_shutIn 69 = .ok (.iinc 2 1, 3) := by decide +kernel
theorem dX8_shutIn_72 : decode cX8_shutIn 72 = .ok (.goto (-68), 3) := by decide +kernel
theorem dX8_shutIn_75 : decode cX8_shutIn 75 = .ok (.iload_n 1, 1) := by decide +kernel
theorem dX8_shutIn_76 : decode cX8_shutIn 76 = .ok (.ireturn, 1) := by decide +kernel
theorem dX8_path_0 : decode cX8_path 0 = .ok (.aload_n 0, 1) := by decide +kernel
theorem dX8_path_1 : decode cX8_path 1 = .ok (.iconst 0, 1) := by decide +kernel
theorem dX8_path_2 : decode cX8_path 2 = .ok (.putfield 59, 3) := by decide +kernel
theorem dX8_path_5 : decode cX8_path 5 = .ok (.aload_n 0, 1) := by decide +kernel
theorem dX8_path_6 : decode cX8_path 6 = .ok (.iload_n 1, 1) := by decide +kernel
theorem dX8_path_7 : decode cX8_path 7 = .ok (.invokevirtual 150, 3) := by decide +kernel
theorem dX8_path_10 : decode cX8_path 10 = .ok (.ifCond .eq 16, 3) := by decide +kernel
theorem dX8_path_13 : decode cX8_path 13 = .ok (.iload_n 2, 1) := by decide +kernel
theorem dX8_path_14 : decode cX8_path 14 = .ok (.ifCond .lt 12, 3) := by decide +kernel
theorem dX8_path_17 : decode cX8_path 17 = .ok (.iload_n 3, 1) := by decide +kernel
theorem dX8_path_18 : decode cX8_path 18 = .ok (.iconst 0, 1) := by decide +kernel
theorem dX8_path_19 : decode cX8_path 19 = .ok (.iconst 2, 1) := by decide +kernel
theorem dX8_path_20 : decode cX8_path 20 = .ok (.invokestatic 63, 3) := by decide +kernel
theorem dX8_path_23 : decode cX8_path 23 = .ok (.ifCond .ne 5, 3) := by decide +kernel
theorem dX8_path_26 : decode cX8_path 26 = .ok (.iconst (-1), 1) := by decide +kernel
theorem dX8_path_27 : decode cX8_path 27 = .ok (.ireturn, 1) := by decide +kernel
theorem dX8_path_28 : decode cX8_path 28 = .ok (.aload_n 0, 1) := by decide +kernel
theorem dX8_path_29 : decode cX8_path 29 = .ok (.invokevirtual 169, 3) := by decide +kernel
theorem dX8_path_32 : decode cX8_path 32 = .ok (.aload_n 0, 1) := by decide +kernel
theorem dX8_path_33 : decode cX8_path 33 = .ok (.aload_n 0, 1) := by decide +kernel
theorem dX8_path_34 : decode cX8_path 34 = .ok (.getfield 13, 3) := by decide +kernel
theorem dX8_path_37 : decode cX8_path 37 = .ok (.bipush 39, 2) := by decide +kernel
theorem dX8_path_39 : decode cX8_path 39 = .ok (.iload_n 1, 1) := by decide +kernel
theorem dX8_path_40 : decode cX8_path 40 = .ok (.iadd, 1) := by decide +kernel
theorem dX8_path_41 : decode cX8_path 41 = .ok (.iaload, 1) := by decide +kernel
theorem dX8_path_42 : decode cX8_path 42 = .ok (.invokevirtual 172, 3) := by decide +kernel
theorem dX8_path_45 : decode cX8_path 45 = .ok (.istore 4, 2) := by decide +kernel
theorem dX8_path_47 : decode cX8_path 47 = .ok (.iconst 0, 1) := by decide +kernel
theorem dX8_path_48 : decode cX8_path 48 = .ok (.istore 5, 2) := by decide +kernel
theorem dX8_path_50 : decode cX8_path 50 = .ok (.iload 5, 2) := by decide +kernel
theorem dX8_path_52 : decode cX8_path 52 = .ok (.iload_n 2, 1) := by decide +kernel
theorem dX8_path_53 : decode cX8_path 53 = .ok (.if_icmp .ge 29, 3) := by decide +kernel
theorem dX8_path_56 : decode cX8_path 56 = .ok (.iload 4, 2) := by decide +kernel
theorem dX8_path_58 : decode cX8_path 58 = .ok (.ifCond .eq 24, 3) := by decide +kernel
theorem dX8_path_61 : decode cX8_path 61 = .ok (.aload_n 0, 1) := by decide +kernel
theorem dX8_path_62 : decode cX8_path 62 = .ok (.aload_n 0, 1) := by decide +kernel
theorem dX8_path_63 : decode cX8_path 63 = .ok (.getfield 13, 3) := by decide +kernel
theorem dX8_path_66 : decode cX8_path 66 = .ok (.bipush 39, 2) := by decide +kernel
theorem dX8_path_68 : decode cX8_path 68 = .ok (.iload_n 1, 1) := by decide +kernel
theorem dX8_path_69 : decode cX8_path 69 = .ok (.iadd, 1) := by decide +kernel
theorem dX8_path_70 : decode cX8_path 70 = .ok (.iaload, 1) := by decide +kernel
theorem dX8_path_71 : decode cX8_path 71 = .ok (.invokevirtual 172, 3) := by decide +kernel
theorem dX8_path_74 : decode cX8_path 74 = .ok (.istore 4, 2) := by decide +kernel
theorem dX8_path_76 : decode cX8_path 76 = .ok (.iinc 5 1, 3) := by decide +kernel
theorem dX8_path_79 : decode cX8_path 79 = .ok (.goto (-29), 3) := by decide +kernel
theorem dX8_path_82 : decode cX8_path 82 = .ok (.iload 4, 2) := by decide +kernel
theorem dX8_path_84 : decode cX8_path 84 = .ok (.ifCond .ne 6, 3) := by decide +kernel
theorem dX8_path_87 : decode cX8_path 87 = .ok (.bipush (-9), 2) := by decide +kernel
theorem dX8_path_89 : decode cX8_path 89 = .ok (.ireturn, 1) := by decide +kernel
theorem dX8_path_90 : decode cX8_path 90 = .ok (.iconst 0, 1) := by decide +kernel
theorem dX8_path_91 : decode cX8_path 91 = .ok (.istore 5, 2) := by decide +kernel
theorem dX8_path_93 : decode cX8_path 93 = .ok (.iconst 0, 1) := by decide +kernel
theorem dX8_path_94 : decode cX8_path 94 = .ok (.istore 6, 2) := by decide +kernel
theorem dX8_path_96 : decode cX8_path 96 = .ok (.iload 6, 2) := by decide +kernel
theorem dX8_path_98 : decode cX8_path 98 = .ok (.aload_n 0, 1) := by decide +kernel
theorem dX8_path_99 : decode cX8_path 99 = .ok (.getfield 160, 3) := by decide +kernel
theorem dX8_path_102 : decode cX8_path 102 = .ok (.if_icmp .ge 23, 3) := by decide +kernel
theorem dX8_path_105 : decode cX8_path 105 = .ok (.iload 5, 2) := by decide +kernel
theorem dX8_path_107 : decode cX8_path 107 = .ok (.iconst 1, 1) := by decide +kernel
theorem dX8_path_108 : decode cX8_path 108 = .ok (.aload_n 0, 1) := by decide +kernel
theorem dX8_path_109 : decode cX8_path 109 = .ok (.getfield 41, 3) := by decide +kernel
theorem dX8_path_112 : decode cX8_path 112 = .ok (.iload 6, 2) := by decide +kernel
theorem dX8_path_114 : decode cX8_path 114 = .ok (.iaload, 1) := by decide +kernel
theorem dX8_path_115 : decode cX8_path 115 = .ok (.ishl, 1) := by decide +kernel
theorem dX8_path_116 : decode cX8_path 116 = .ok (.ior, 1) := by decide +kernel
theorem dX8_path_117 : decode cX8_path 117 = .ok (.istore 5, 2) := by decide +kernel
theorem dX8_path_119 : decode cX8_path 119 = .ok (.iinc 6 1, 3) := by decide +kernel
theorem dX8_path_122 : decode cX8_path 122 = .ok (.goto (-26), 3) := by decide +kernel
theorem dX8_path_125 : decode cX8_path 125 = .ok (.iload_n 3, 1) := by decide +kernel
theorem dX8_path_126 : decode cX8_path 126 = .ok (.ifCond .ne 8, 3) := by decide +kernel
theorem dX8_path_129 : decode cX8_path 129 = .ok (.iload 5, 2) := by decide +kernel
theorem dX8_path_131 : decode cX8_path 131 = .ok (.goto 19, 3) := by decide +kernel
theorem dX8_path_134 : decode cX8_path 134 = .ok (.iload_n 3, 1) := by decide +kernel
theorem dX8_path_135 : decode cX8_path 135 = .ok (.iconst 1, 1) := by decide +kernel
theorem dX8_path_136 : decode cX8_path 136 = .ok (.if_icmp .ne 10, 3) := by decide +kernel
theorem dX8_path_139 : decode cX8_path 139 = .ok (.aload_n 0, 1) := by decide +kernel
theorem dX8_path_140 : decode cX8_path 140 = .ok (.getfield 160, 3) := by decide +kernel
theorem dX8_path_143 : decode cX8_path 143 = .ok (.goto 7, 3) := by decide +kernel
theorem dX8_path_146 : decode cX8_path 146 = .ok (.aload_n 0, 1) := by decide +kernel
theorem dX8_path_147 : decode cX8_path 147 = .ok (.invokevirtual 175, 3) := by decide +kernel
theorem dX8_path_150 : decode cX8_path 150 = .ok (.ireturn, 1) := by decide +kernel
theorem dX8_shortest_0 : decode cX8_shortest 0 = .ok (.aload_n 0, 1) := by decide +kernel
theorem dX8_shortest_1 : decode cX8_shortest 1 = .ok (.iconst 0, 1) := by decide +kernel
theorem dX8_shortest_2 : decode cX8_shortest 2 = .ok (.putfield 59, 3) := by decide +kernel
theorem dX8_shortest_5 : decode cX8_shortest 5 = .ok (.aload_n 0, 1) := by decide +kernel
theorem dX8_shortest_6 : decode cX8_shortest 6 = .ok (.iload_n 1, 1) := by decide +kernel
theorem dX8_shortest_7 : decode cX8_shortest 7 = .ok (.invokevirtual 150, 3) := by decide +kernel
theorem dX8_shortest_10 : decode cX8_shortest 10 = .ok (.ifCond .eq 15, 3) := by decide +kernel
theorem dX8_shortest_13 : decode cX8_shortest 13 = .ok (.iload_n 2, 1) := by decide +kernel
theorem dX8_shortest_14 : decode cX8_shortest 14 = .ok (.invokestatic 179, 3) := by decide +kernel
theorem dX8_shortest_17 : decode cX8_shortest 17 = .ok (.ifCond .eq 8, 3) := by decide +kernel
theorem dX8_shortest_20 : decode cX8_shortest 20 = .ok (.iload_n 3, 1) := by decide +kernel
theorem dX8_shortest_21 : decode cX8_shortest 21 = .ok (.iconst (-1), 1) := by decide +kernel
theorem dX8_shortest_22 : decode cX8_shortest 22 = .ok (.if_icmp .ge 5, 3) := by decide +kernel
theorem dX8_shortest_25 : decode cX8_shortest 25 = .ok (.iconst (-1), 1) := by decide +kernel
theorem dX8_shortest_26 : decode cX8_shortest 26 = .ok (.ireturn, 1) := by decide +kernel
theorem dX8_shortest_27 : decode cX8_shortest 27 = .ok (.bipush 99, 2) := by decide +kernel
theorem dX8_shortest_29 : decode cX8_shortest 29 = .ok (.istore 4, 2) := by decide +kernel
theorem dX8_shortest_31 : decode cX8_shortest 31 = .ok (.aload_n 0, 1) := by decide +kernel
theorem dX8_shortest_32 : decode cX8_shortest 32 = .ok (.invokevirtual 169, 3) := by decide +kernel
theorem dX8_shortest_35 : decode cX8_shortest 35 = .ok (.aload_n 0, 1) := by decide +kernel
theorem dX8_shortest_36 : decode cX8_shortest 36 = .ok (.aload_n 0, 1) := by decide +kernel
theorem dX8_shortest_37 : decode cX8_shortest 37 = .ok (.getfield 13, 3) := by decide +kernel
theorem dX8_shortest_40 : decode cX8_shortest 40 = .ok (.bipush 39, 2) := by decide +kernel
theorem dX8_shortest_42 : decode cX8_shortest 42 = .ok (.iload_n 1, 1) := by decide +kernel
theorem dX8_shortest_43 : decode cX8_shortest 43 = .ok (.iadd, 1) := by decide +kernel
theorem dX8_shortest_44 : decode cX8_shortest 44 = .ok (.iaload, 1) := by decide +kernel
theorem dX8_shortest_45 : decode cX8_shortest 45 = .ok (.invokevirtual 172, 3) := by decide +kernel
theorem dX8_shortest_48 : decode cX8_shortest 48 = .ok (.ifCond .eq 64, 3) := by decide +kernel
theorem dX8_shortest_51 : decode cX8_shortest 51 = .ok (.aload_n 0, 1) := by decide +kernel
theorem dX8_shortest_52 : decode cX8_shortest 52 = .ok (.getfield 160, 3) := by decide +kernel
theorem dX8_shortest_55 : decode cX8_shortest 55 = .ok (.iload 4, 2) := by decide +kernel
theorem dX8_shortest_57 : decode cX8_shortest 57 = .ok (.if_icmp .ge (-22), 3) := by decide +kernel
theorem dX8_shortest_60 : decode cX8_shortest 60 = .ok (.aload_n 0, 1) := by decide +kernel
theorem dX8_shortest_61 : decode cX8_shortest 61 = .ok (.invokevirtual 175, 3) := by decide +kernel
theorem dX8_shortest_64 : decode cX8_shortest 64 = .ok (.iload_n 2, 1) := by decide +kernel
theorem dX8_shortest_65 : decode cX8_shortest 65 = .ok (.invokestatic 130, 3) := by decide +kernel
theorem dX8_shortest_68 : decode cX8_shortest 68 = .ok (.ifCond .eq (-33), 3) := by decide +kernel
theorem dX8_shortest_71 : decode cX8_shortest 71 = .ok (.aload_n 0, 1) := by decide +kernel
theorem dX8_shortest_72 : decode cX8_shortest 72 = .ok (.getfield 160, 3) := by decide +kernel
theorem dX8_shortest_75 : decode cX8_shortest 75 = .ok (.istore 4, 2) := by decide +kernel
theorem dX8_shortest_77 : decode cX8_shortest 77 = .ok (.iconst 0, 1) := by decide +kernel
theorem dX8_shortest_78 : decode cX8_shortest 78 = .ok (.istore 5, 2) := by decide +kernel
theorem dX8_shortest_80 : decode cX8_shortest 80 = .ok (.iload 5, 2) := by decide +kernel
theorem dX8_shortest_82 : decode cX8_shortest 82 = .ok (.aload_n 0, 1) := by decide +kernel
theorem dX8_shortest_83 : decode cX8_shortest 83 = .ok (.getfield 160, 3) := by decide +kernel
theorem dX8_shortest_86 : decode cX8_shortest 86 = .ok (.if_icmp .ge 23, 3) := by decide +kernel
theorem dX8_shortest_89 : decode cX8_shortest 89 = .ok (.aload_n 0, 1) := by decide +kernel
theorem dX8_shortest_90 : decode cX8_shortest 90 = .ok (.getfield 47, 3) := by decide +kernel
theorem dX8_shortest_93 : decode cX8_shortest 93 = .ok (.iload 5, 2) := by decide +kernel
theorem dX8_shortest_95 : decode cX8_shortest 95 = .ok (.aload_n 0, 1) := by decide +kernel
theorem dX8_shortest_96 : decode cX8_shortest 96 = .ok (.getfield 41, 3) := by decide +kernel
theorem dX8_shortest_99 : decode cX8_shortest 99 = .ok (.iload 5, 2) := by decide +kernel
theorem dX8_shortest_101 : decode cX8_shortest 101 = .ok (.iaload, 1) := by decide +kernel
theorem dX8_shortest_102 : decode cX8_shortest 102 = .ok (.iastore, 1) := by decide +kernel
theorem dX8_shortest_103 : decode cX8_shortest 103 = .ok (.iinc 5 1, 3) := by decide +kernel
theorem dX8_shortest_106 : decode cX8_shortest 106 = .ok (.goto (-26), 3) := by decide +kernel
theorem dX8_shortest_109 : decode cX8_shortest 109 = .ok (.goto (-74), 3) := by decide +kernel
theorem dX8_shortest_112 : decode cX8_shortest 112 = .ok (.iload 4, 2) := by decide +kernel
theorem dX8_shortest_114 : decode cX8_shortest 114 = .ok (.bipush 99, 2) := by decide +kernel
theorem dX8_shortest_116 : decode cX8_shortest 116 = .ok (.if_icmp .ne 6, 3) := by decide +kernel
theorem dX8_shortest_119 : decode cX8_shortest 119 = .ok (.bipush (-9), 2) := by decide +kernel
theorem dX8_shortest_121 : decode cX8_shortest 121 = .ok (.ireturn, 1) := by decide +kernel
theorem dX8_shortest_122 : decode cX8_shortest 122 = .ok (.iload_n 3, 1) := by decide +kernel
theorem dX8_shortest_123 : decode cX8_shortest 123 = .ok (.ifCond .ge 8, 3) := by decide +kernel
theorem dX8_shortest_126 : decode cX8_shortest 126 = .ok (.iload 4, 2) := by decide +kernel
theorem dX8_shortest_128 : decode cX8_shortest 128 = .ok (.goto 20, 3) := by decide +kernel
theorem dX8_shortest_131 : decode cX8_shortest 131 = .ok (.iload_n 3, 1) := by decide +kernel
theorem dX8_shortest_132 : decode cX8_shortest 132 = .ok (.iload 4, 2) := by decide +kernel
theorem dX8_shortest_134 : decode cX8_shortest 134 = .ok (.if_icmp .ge 12, 3) := by decide +kernel
theorem dX8_shortest_137 : decode cX8_shortest 137 = .ok (.aload_n 0, 1) := by decide +kernel
theorem dX8_shortest_138 : decode cX8_shortest 138 = .ok (.getfield 47, 3) := by decide +kernel
theorem dX8_shortest_141 : decode cX8_shortest 141 = .ok (.iload_n 3, 1) := by decide +kernel
theorem dX8_shortest_142 : decode cX8_shortest 142 = .ok (.iaload, 1) := by decide +kernel
theorem dX8_shortest_143 : decode cX8_shortest 143 = .ok (.goto 5, 3) := by decide +kernel
theorem dX8_shortest_146 : decode cX8_shortest 146 = .ok (.bipush (-9), 2) := by decide +kernel
theorem dX8_shortest_148 : decode cX8_shortest 148 = .ok (.ireturn, 1) := by decide +kernel
theorem dX8_parting_0 : decode cX8_parting 0 = .ok (.aload_n 0, 1) := by decide +kernel
theorem dX8_parting_1 : decode cX8_parting 1 = .ok (.iconst 0, 1) := by decide +kernel
theorem dX8_parting_2 : decode cX8_parting 2 = .ok (.putfield 59, 3) := by decide +kernel
theorem dX8_parting_5 : decode cX8_parting 5 = .ok (.aload_n 0, 1) := by decide +kernel
theorem dX8_parting_6 : decode cX8_parting 6 = .ok (.iload_n 1, 1) := by decide +kernel
theorem dX8_parting_7 : decode cX8_parting 7 = .ok (.invokevirtual 150, 3) := by decide +kernel
theorem dX8_parting_10 : decode cX8_parting 10 = .ok (.ifCond .eq 10, 3) := by decide +kernel
theorem dX8_parting_13 : decode cX8_parting 13 = .ok (.iload_n 2, 1) := by decide +kernel
theorem dX8_parting_14 : decode cX8_parting 14 = .ok (.invokestatic 179, 3) := by decide +kernel
theorem dX8_parting_17 : decode cX8_parting 17 = .ok (.ifCond .ne 5, 3) := by decide +kernel
theorem dX8_parting_20 : decode cX8_parting 20 = .ok (.iconst (-1), 1) := by decide +kernel
theorem dX8_parting_21 : decode cX8_parting 21 = .ok (.ireturn, 1) := by decide +kernel
theorem dX8_parting_22 : decode cX8_parting 22 = .ok (.iconst 1, 1) := by decide +kernel
theorem dX8_parting_23 : decode cX8_parting 23 = .ok (.aload_n 0, 1) := by decide +kernel
theorem dX8_parting_24 : decode cX8_parting 24 = .ok (.getfield 13, 3) := by decide +kernel
theorem dX8_parting_27 : decode cX8_parting 27 = .ok (.iconst 1, 1) := by decide +kernel
theorem dX8_parting_28 : decode cX8_parting 28 = .ok (.iaload, 1) := by decide +kernel
theorem dX8_parting_29 : decode cX8_parting 29 = .ok (.ishl, 1) := by decide +kernel
theorem dX8_parting_30 : decode cX8_parting 30 = .ok (.iconst 1, 1) := by decide +kernel
theorem dX8_parting_31 : decode cX8_parting 31 = .ok (.isub, 1) := by decide +kernel
theorem dX8_parting_32 : decode cX8_parting 32 = .ok (.istore_n 3, 1) := by decide +kernel
theorem dX8_parting_33 : decode cX8_parting 33 = .ok (.iload_n 3, 1) := by decide +kernel
theorem dX8_parting_34 : decode cX8_parting 34 = .ok (.istore 4, 2) := by decide +kernel
theorem dX8_parting_36 : decode cX8_parting 36 = .ok (.iload 4, 2) := by decide +kernel
theorem dX8_parting_38 : decode cX8_parting 38 = .ok (.ifCond .lt 39, 3) := by decide +kernel
theorem dX8_parting_41 : decode cX8_parting 41 = .ok (.iload 4, 2) := by decide +kernel
theorem dX8_parting_43 : decode cX8_parting 43 = .ok (.invokestatic 182, 3) := by decide +kernel
theorem dX8_parting_46 : decode cX8_parting 46 = .ok (.iload_n 3, 1) := by decide +kernel
theorem dX8_parting_47 : decode cX8_parting 47 = .ok (.invokestatic 182, 3) := by decide +kernel
theorem dX8_parting_50 : decode cX8_parting 50 = .ok (.if_icmp .gt 19, 3) := by decide +kernel
theorem dX8_parting_53 : decode cX8_parting 53 = .ok (.aload_n 0, 1) := by decide +kernel
theorem dX8_parting_54 : decode cX8_parting 54 = .ok (.iload_n 1, 1) := by decide +kernel
theorem dX8_parting_55 : decode cX8_parting 55 = .ok (.iload_n 2, 1) := by decide +kernel
theorem dX8_parting_56 : decode cX8_parting 56 = .ok (.iload 4, 2) := by decide +kernel
theorem dX8_parting_58 : decode cX8_parting 58 = .ok (.invokevirtual 144, 3) := by decide +kernel
theorem dX8_parting_61 : decode cX8_parting 61 = .ok (.ifCond .ne 8, 3) := by decide +kernel
theorem dX8_parting_64 : decode cX8_parting 64 = .ok (.iload 4, 2) := by decide +kernel
theorem dX8_parting_66 : decode cX8_parting 66 = .ok (.goto 4, 3) := by decide +kernel
theorem dX8_parting_69 : decode cX8_parting 69 = .ok (.iload_n 3, 1) := by decide +kernel
theorem dX8_parting_70 : decode cX8_parting 70 = .ok (.istore_n 3, 1) := by decide +kernel
theorem dX8_parting_71 : decode cX8_parting 71 = .ok (.iinc 4 (-1), 3) := by decide +kernel
theorem dX8_parting_74 : decode cX8_parting 74 = .ok (.goto (-38), 3) := by decide +kernel
theorem dX8_parting_77 : decode cX8_parting 77 = .ok (.iload_n 3, 1) := by decide +kernel
theorem dX8_parting_78 : decode cX8_parting 78 = .ok (.ireturn, 1) := by decide +kernel
theorem dX8_isEnough_0 : decode cX8_isEnough 0 = .ok (.iconst 1, 1) := by decide +kernel
theorem dX8_isEnough_1 : decode cX8_isEnough 1 = .ok (.istore_n 2, 1) := by decide +kernel
theorem dX8_isEnough_2 : decode cX8_isEnough 2 = .ok (.iconst 0, 1) := by decide +kernel
theorem dX8_isEnough_3 : decode cX8_isEnough 3 = .ok (.istore_n 3, 1) := by decide +kernel
theorem dX8_isEnough_4 : decode cX8_isEnough 4 = .ok (.iload_n 3, 1) := by decide +kernel
theorem dX8_isEnough_5 : decode cX8_isEnough 5 = .ok (.aload_n 0, 1) := by decide +kernel
theorem dX8_isEnough_6 : decode cX8_isEnough 6 = .ok (.getfield 13, 3) := by decide +kernel
theorem dX8_isEnough_9 : decode cX8_isEnough 9 = .ok (.iconst 2, 1) := by decide +kernel
theorem dX8_isEnough_10 : decode cX8_isEnough 10 = .ok (.iaload, 1) := by decide +kernel
theorem dX8_isEnough_11 : decode cX8_isEnough 11 = .ok (.if_icmp .ge 62, 3) := by decide +kernel
theorem dX8_isEnough_14 : decode cX8_isEnough 14 = .ok (.iload_n 2, 1) := by decide +kernel
theorem dX8_isEnough_15 : decode cX8_isEnough 15 = .ok (.ifCond .eq 58, 3) := by decide +kernel
theorem dX8_isEnough_18 : decode cX8_isEnough 18 = .ok (.aload_n 0, 1) := by decide +kernel
theorem dX8_isEnough_19 : decode cX8_isEnough 19 = .ok (.iload_n 3, 1) := by decide +kernel
theorem dX8_isEnough_20 : decode cX8_isEnough 20 = .ok (.invokevirtual 121, 3) := by decide +kernel
theorem dX8_isEnough_23 : decode cX8_isEnough 23 = .ok (.istore 4, 2) := by decide +kernel
theorem dX8_isEnough_25 : decode cX8_isEnough 25 = .ok (.aload_n 0, 1) := by decide +kernel
theorem dX8_isEnough_26 : decode cX8_isEnough 26 = .ok (.getfield 19, 3) := by decide +kernel
theorem dX8_isEnough_29 : decode cX8_isEnough 29 = .ok (.iconst 0, 1) := by decide +kernel
theorem dX8_isEnough_30 : decode cX8_isEnough 30 = .ok (.iload_n 3, 1) := by decide +kernel
theorem dX8_isEnough_31 : decode cX8_isEnough 31 = .ok (.iadd, 1) := by decide +kernel
theorem dX8_isEnough_32 : decode cX8_isEnough 32 = .ok (.iaload, 1) := by decide +kernel
theorem dX8_isEnough_33 : decode cX8_isEnough 33 = .ok (.istore 5, 2) := by decide +kernel
theorem dX8_isEnough_35 : decode cX8_isEnough 35 = .ok (.iload 4, 2) := by decide +kernel
theorem dX8_isEnough_37 : decode cX8_isEnough 37 = .ok (.iload 5, 2) := by decide +kernel
theorem dX8_isEnough_39 : decode cX8_isEnough 39 = .ok (.iconst (-1), 1) := by decide +kernel
theorem dX8_isEnough_40 : decode cX8_isEnough 40 = .ok (.ixor, 1) := by decide +kernel
theorem dX8_isEnough_41 : decode cX8_isEnough 41 = .ok (.iand, 1) := by decide +kernel
theorem dX8_isEnough_42 : decode cX8_isEnough 42 = .ok (.ifCond .ne 23, 3) := by decide +kernel
theorem dX8_isEnough_45 : decode cX8_isEnough 45 = .ok (.iload 5, 2) := by decide +kernel
theorem dX8_isEnough_47 : decode cX8_isEnough 47 = .ok (.iload 4, 2) := by decide +kernel
theorem dX8_isEnough_49 : decode cX8_isEnough 49 = .ok (.iconst (-1), 1) := by decide +kernel
theorem dX8_isEnough_50 : decode cX8_isEnough 50 = .ok (.ixor, 1) := by decide +kernel
theorem dX8_isEnough_51 : decode cX8_isEnough 51 = .ok (.iand, 1) := by decide +kernel
theorem dX8_isEnough_52 : decode cX8_isEnough 52 = .ok (.aload_n 1, 1) := by decide +kernel
theorem dX8_isEnough_53 : decode cX8_isEnough 53 = .ok (.iload_n 3, 1) := by decide +kernel
theorem dX8_isEnough_54 : decode cX8_isEnough 54 = .ok (.iaload, 1) := by decide +kernel
theorem dX8_isEnough_55 : decode cX8_isEnough 55 = .ok (.iconst (-1), 1) := by decide +kernel
theorem dX8_isEnough_56 : decode cX8_isEnough 56 = .ok (.ixor, 1) := by decide +kernel
theorem dX8_isEnough_57 : decode cX8_isEnough 57 = .ok (.iand, 1) := by decide +kernel
theorem dX8_isEnough_58 : decode cX8_isEnough 58 = .ok (.ifCond .ne 7, 3) := by decide +kernel
theorem dX8_isEnough_61 : decode cX8_isEnough 61 = .ok (.iconst 1, 1) := by decide +kernel
theorem dX8_isEnough_62 : decode cX8_isEnough 62 = .ok (.goto 4, 3) := by decide +kernel
theorem dX8_isEnough_65 : decode cX8_isEnough 65 = .ok (.iconst 0, 1) := by decide +kernel
theorem dX8_isEnough_66 : decode cX8_isEnough 66 = .ok (.istore_n 2, 1) := by decide +kernel
theorem dX8_isEnough_67 : decode cX8_isEnough 67 = .ok (.iinc 3 1, 3) := by decide +kernel
theorem dX8_isEnough_70 : decode cX8_isEnough 70 = .ok (.goto (-66), 3) := by decide +kernel
theorem dX8_isEnough_73 : decode cX8_isEnough 73 = .ok (.iload_n 2, 1) := by decide +kernel
theorem dX8_isEnough_74 : decode cX8_isEnough 74 = .ok (.ireturn, 1) := by decide +kernel
theorem dX8_enough_0 : decode cX8_enough 0 = .ok (.aload_n 0, 1) := by decide +kernel
theorem dX8_enough_1 : decode cX8_enough 1 = .ok (.iconst 0, 1) := by decide +kernel
theorem dX8_enough_2 : decode cX8_enough 2 = .ok (.putfield 59, 3) := by decide +kernel
theorem dX8_enough_5 : decode cX8_enough 5 = .ok (.iload_n 1, 1) := by decide +kernel
theorem dX8_enough_6 : decode cX8_enough 6 = .ok (.iconst 0, 1) := by decide +kernel
theorem dX8_enough_7 : decode cX8_enough 7 = .ok (.iconst 1, 1) := by decide +kernel
theorem dX8_enough_8 : decode cX8_enough 8 = .ok (.invokestatic 63, 3) := by decide +kernel
theorem dX8_enough_11 : decode cX8_enough 11 = .ok (.ifCond .ne 5, 3) := by decide +kernel
theorem dX8_enough_14 : decode cX8_enough 14 = .ok (.iconst (-1), 1) := by decide +kernel
theorem dX8_enough_15 : decode cX8_enough 15 = .ok (.ireturn, 1) := by decide +kernel
theorem dX8_enough_16 : decode cX8_enough 16 = .ok (.iconst 0, 1) := by decide +kernel
theorem dX8_enough_17 : decode cX8_enough 17 = .ok (.istore_n 2, 1) := by decide +kernel
theorem dX8_enough_18 : decode cX8_enough 18 = .ok (.iload_n 2, 1) := by decide +kernel
theorem dX8_enough_19 : decode cX8_enough 19 = .ok (.aload_n 0, 1) := by decide +kernel
theorem dX8_enough_20 : decode cX8_enough 20 = .ok (.getfield 13, 3) := by decide +kernel
theorem dX8_enough_23 : decode cX8_enough 23 = .ok (.iconst 2, 1) := by decide +kernel
theorem dX8_enough_24 : decode cX8_enough 24 = .ok (.iaload, 1) := by decide +kernel
theorem dX8_enough_25 : decode cX8_enough 25 = .ok (.if_icmp .ge 31, 3) := by decide +kernel
theorem dX8_enough_28 : decode cX8_enough 28 = .ok (.aload_n 0, 1) := by decide +kernel
theorem dX8_enough_29 : decode cX8_enough 29 = .ok (.getfield 50, 3) := by decide +kernel
theorem dX8_enough_32 : decode cX8_enough 32 = .ok (.iload_n 2, 1) := by decide +kernel
theorem dX8_enough_33 : decode cX8_enough 33 = .ok (.aload_n 0, 1) := by decide +kernel
theorem dX8_enough_34 : decode cX8_enough 34 = .ok (.getfield 19, 3) := by decide +kernel
theorem dX8_enough_37 : decode cX8_enough 37 = .ok (.iconst 0, 1) := by decide +kernel
theorem dX8_enough_38 : decode cX8_enough 38 = .ok (.iload_n 2, 1) := by decide +kernel
theorem dX8_enough_39 : decode cX8_enough 39 = .ok (.iadd, 1) := by decide +kernel
theorem dX8_enough_40 : decode cX8_enough 40 = .ok (.iaload, 1) := by decide +kernel
theorem dX8_enough_41 : decode cX8_enough 41 = .ok (.aload_n 0, 1) := by decide +kernel
theorem dX8_enough_42 : decode cX8_enough 42 = .ok (.iload_n 2, 1) := by decide +kernel
theorem dX8_enough_43 : decode cX8_enough 43 = .ok (.invokevirtual 121, 3) := by decide +kernel
theorem dX8_enough_46 : decode cX8_enough 46 = .ok (.iconst (-1), 1) := by decide +kernel
theorem dX8_enough_47 : decode cX8_enough 47 = .ok (.ixor, 1) := by decide +kernel
theorem dX8_enough_48 : decode cX8_enough 48 = .ok (.iand, 1) := by decide +kernel
theorem dX8_enough_49 : decode cX8_enough 49 = .ok (.iastore, 1) := by decide +kernel
theorem dX8_enough_50 : decode cX8_enough 50 = .ok (.iinc 2 1, 3) := by decide +kernel
theorem dX8_enough_53 : decode cX8_enough 53 = .ok (.goto (-35), 3) := by decide +kernel
theorem dX8_enough_56 : decode cX8_enough 56 = .ok (.iconst 0, 1) := by decide +kernel
theorem dX8_enough_57 : decode cX8_enough 57 = .ok (.istore_n 2, 1) := by decide +kernel
theorem dX8_enough_58 : decode cX8_enough 58 = .ok (.bipush (-9), 2) := by decide +kernel
theorem dX8_enough_60 : decode cX8_enough 60 = .ok (.istore_n 3, 1) := by decide +kernel
theorem dX8_enough_61 : decode cX8_enough 61 = .ok (.iconst 0, 1) := by decide +kernel
theorem dX8_enough_62 : decode cX8_enough 62 = .ok (.istore 4, 2) := by decide +kernel
theorem dX8_enough_64 : decode cX8_enough 64 = .ok (.iload 4, 2) := by decide +kernel
theorem dX8_enough_66 : decode cX8_enough 66 = .ok (.bipush 10, 2) := by decide +kernel
theorem dX8_enough_68 : decode cX8_enough 68 = .ok (.aload_n 0, 1) := by decide +kernel
theorem dX8_enough_69 : decode cX8_enough 69 = .ok (.getfield 13, 3) := by decide +kernel
theorem dX8_enough_72 : decode cX8_enough 72 = .ok (.iconst 1, 1) := by decide +kernel
theorem dX8_enough_73 : decode cX8_enough 73 = .ok (.iaload, 1) := by decide +kernel
theorem dX8_enough_74 : decode cX8_enough 74 = .ok (.imul, 1) := by decide +kernel
theorem dX8_enough_75 : decode cX8_enough 75 = .ok (.if_icmp .ge 176, 3) := by decide +kernel
theorem dX8_enough_78 : decode cX8_enough 78 = .ok (.iload 4, 2) := by decide +kernel
theorem dX8_enough_80 : decode cX8_enough 80 = .ok (.bipush 10, 2) := by decide +kernel
theorem dX8_enough_82 : decode cX8_enough 82 = .ok (.idiv, 1) := by decide +kernel
theorem dX8_enough_83 : decode cX8_enough 83 = .ok (.istore 5, 2) := by decide +kernel
theorem dX8_enough_85 : decode cX8_enough 85 = .ok (.iload 4, 2) := by decide +kernel
theorem dX8_enough_87 : decode cX8_enough 87 = .ok (.bipush 10, 2) := by decide +kernel
theorem dX8_enough_89 : decode cX8_enough 89 = .ok (.irem, 1) := by decide +kernel
theorem dX8_enough_90 : decode cX8_enough 90 = .ok (.istore 6, 2) := by decide +kernel
theorem dX8_enough_92 : decode cX8_enough 92 = .ok (.aload_n 0, 1) := by decide +kernel
theorem dX8_enough_93 : decode cX8_enough 93 = .ok (.getfield 19, 3) := by decide +kernel
theorem dX8_enough_96 : decode cX8_enough 96 = .ok (.iconst 3, 1) := by decide +kernel
theorem dX8_enough_97 : decode cX8_enough 97 = .ok (.iload 5, 2) := by decide +kernel
theorem dX8_enough_99 : decode cX8_enough 99 = .ok (.iadd, 1) := by decide +kernel
theorem dX8_enough_100 : decode cX8_enough 100 = .ok (.iaload, 1) := by decide +kernel
theorem dX8_enough_101 : decode cX8_enough 101 = .ok (.iconst 4, 1) := by decide +kernel
theorem dX8_enough_102 : decode cX8_enough 102 = .ok (.if_icmp .ne 143, 3) := by decide +kernel
theorem dX8_enough_105 : decode cX8_enough 105 = .ok (.aload_n 0, 1) := by decide +kernel
theorem dX8_enough_106 : decode cX8_enough 106 = .ok (.getfield 19, 3) := by decide +kernel
theorem dX8_enough_109 : decode cX8_enough 109 = .ok (.iconst 3, 1) := by decide +kernel
theorem dX8_enough_110 : decode cX8_enough 110 = .ok (.iload 5, 2) := by decide +kernel
theorem dX8_enough_112 : decode cX8_enough 112 = .ok (.iadd, 1) := by decide +kernel
theorem dX8_enough_113 : decode cX8_enough 113 = .ok (.iload 6, 2) := by decide +kernel
theorem dX8_enough_115 : decode cX8_enough 115 = .ok (.bipush 8, 2) := by decide +kernel
theorem dX8_enough_117 : decode cX8_enough 117 = .ok (.if_icmp .ge 10, 3) := by decide +kernel
theorem dX8_enough_120 : decode cX8_enough 120 = .ok (.iload 6, 2) := by decide +kernel
theorem dX8_enough_122 : decode cX8_enough 122 = .ok (.iconst 4, 1) := by decide +kernel
theorem dX8_enough_123 : decode cX8_enough 123 = .ok (.idiv, 1) := by decide +kernel
theorem dX8_enough_124 : decode cX8_enough 124 = .ok (.goto 8, 3) := by decide +kernel
theorem dX8_enough_127 : decode cX8_enough 127 = .ok (.iload 6, 2) := by decide +kernel
theorem dX8_enough_129 : decode cX8_enough 129 = .ok (.bipush 6, 2) := by decide +kernel
theorem dX8_enough_131 : decode cX8_enough 131 = .ok (.isub, 1) := by decide +kernel
theorem dX8_enough_132 : decode cX8_enough 132 = .ok (.iastore, 1) := by decide +kernel
theorem dX8_enough_133 : decode cX8_enough 133 = .ok (.aload_n 0, 1) := by decide +kernel
theorem dX8_enough_134 : decode cX8_enough 134 = .ok (.getfield 19, 3) := by decide +kernel
theorem dX8_enough_137 : decode cX8_enough 137 = .ok (.bipush 12, 2) := by decide +kernel
theorem dX8_enough_139 : decode cX8_enough 139 = .ok (.iload 5, 2) := by decide +kernel
theorem dX8_enough_141 : decode cX8_enough 141 = .ok (.iadd, 1) := by decide +kernel
theorem dX8_enough_142 : decode cX8_enough 142 = .ok (.iload 6, 2) := by decide +kernel
theorem dX8_enough_144 : decode cX8_enough 144 = .ok (.bipush 8, 2) := by decide +kernel
theorem dX8_enough_146 : decode cX8_enough 146 = .ok (.if_icmp .ge 10, 3) := by decide +kernel
theorem dX8_enough_149 : decode cX8_enough 149 = .ok (.iload 6, 2) := by decide +kernel
theorem dX8_enough_151 : decode cX8_enough 151 = .ok (.iconst 4, 1) := by decide +kernel
theorem dX8_enough_152 : decode cX8_enough 152 = .ok (.irem, 1) := by decide +kernel
theorem dX8_enough_153 : decode cX8_enough 153 = .ok (.goto 4, 3) := by decide +kernel
theorem dX8_enough_156 : decode cX8_enough 156 = .ok (.iconst 0, 1) := by decide +kernel
theorem dX8_enough_157 : decode cX8_enough 157 = .ok (.iastore, 1) := by decide +kernel
theorem dX8_enough_158 : decode cX8_enough 158 = .ok (.aload_n 0, 1) := by decide +kernel
theorem dX8_enough_159 : decode cX8_enough 159 = .ok (.aload_n 0, 1) := by decide +kernel
theorem dX8_enough_160 : decode cX8_enough 160 = .ok (.getfield 50, 3) := by decide +kernel
theorem dX8_enough_163 : decode cX8_enough 163 = .ok (.invokevirtual 185, 3) := by decide +kernel
theorem dX8_enough_166 : decode cX8_enough 166 = .ok (.istore 7, 2) := by decide +kernel
theorem dX8_enough_168 : decode cX8_enough 168 = .ok (.iload 7, 2) := by decide +kernel
theorem dX8_enough_170 : decode cX8_enough 170 = .ok (.ifCond .eq 39, 3) := by decide +kernel
theorem dX8_enough_173 : decode cX8_enough 173 = .ok (.iload_n 2, 1) := by decide +kernel
theorem dX8_enough_174 : decode cX8_enough 174 = .ok (.ifCond .ne 35, 3) := by decide +kernel
theorem dX8_enough_177 : decode cX8_enough 177 = .ok (.bipush 100, 2) := by decide +kernel
theorem dX8_enough_179 : decode cX8_enough 179 = .ok (.iload 5, 2) := by decide +kernel
theorem dX8_enough_181 : decode cX8_enough 181 = .ok (.imul, 1) := by decide +kernel
theorem dX8_enough_182 : decode cX8_enough 182 = .ok (.bipush 10, 2) := by decide +kernel
theorem dX8_enough_184 : decode cX8_enough 184 = .ok (.aload_n 0, 1) := by decide +kernel
theorem dX8_enough_185 : decode cX8_enough 185 = .ok (.getfield 19, 3) := by decide +kernel
theorem dX8_enough_188 : decode cX8_enough 188 = .ok (.iconst 3, 1) := by decide +kernel
theorem dX8_enough_189 : decode cX8_enough 189 = .ok (.iload 5, 2) := by decide +kernel
theorem dX8_enough_191 : decode cX8_enough 191 = .ok (.iadd, 1) := by decide +kernel
theorem dX8_enough_192 : decode cX8_enough 192 = .ok (.iaload, 1) := by decide +kernel
theorem dX8_enough_193 : decode cX8_enough 193 = .ok (.imul, 1) := by decide +kernel
theorem dX8_enough_194 : decode cX8_enough 194 = .ok (.iadd, 1) := by decide +kernel
theorem dX8_enough_195 : decode cX8_enough 195 = .ok (.aload_n 0, 1) := by decide +kernel
theorem dX8_enough_196 : decode cX8_enough 196 = .ok (.getfield 19, 3) := by decide +kernel
theorem dX8_enough_199 : decode cX8_enough 199 = .ok (.bipush 12, 2) := by decide +kernel
theorem dX8_enough_201 : decode cX8_enough 201 = .ok (.iload 5, 2) := by decide +kernel
theorem dX8_enough_203 : decode cX8_enough 203 = .ok (.iadd, 1) := by decide +kernel
theorem dX8_enough_204 : decode cX8_enough 204 = .ok (.iaload, 1) := by decide +kernel
theorem dX8_enough_205 : decode cX8_enough 205 = .ok (.iadd, 1) := by decide +kernel
theorem dX8_enough_206 : decode cX8_enough 206 = .ok (.goto 4, 3) := by decide +kernel
theorem dX8_enough_209 : decode cX8_enough 209 = .ok (.iload_n 3, 1) := by decide +kernel
theorem dX8_enough_210 : decode cX8_enough 210 = .ok (.istore_n 3, 1) := by decide +kernel
theorem dX8_enough_211 : decode cX8_enough 211 = .ok (.iload_n 2, 1) := by decide +kernel
theorem dX8_enough_212 : decode cX8_enough 212 = .ok (.iload 7, 2) := by decide +kernel
theorem dX8_enough_214 : decode cX8_enough 214 = .ok (.ifCond .eq 7, 3) := by decide +kernel
theorem dX8_enough_217 : decode cX8_enough 217 = .ok (.iconst 1, 1) := by decide +kernel
theorem dX8_enough_218 : decode cX8_enough 218 = .ok (.goto 4, 3) := by decide +kernel
theorem dX8_enough_221 : decode cX8_enough 221 = .ok (.iconst 0, 1) := by decide +kernel
theorem dX8_enough_222 : decode cX8_enough 222 = .ok (.iadd, 1) := by decide +kernel
theorem dX8_enough_223 : decode cX8_enough 223 = .ok (.istore_n 2, 1) := by decide +kernel
theorem dX8_enough_224 : decode cX8_enough 224 = .ok (.aload_n 0, 1) := by decide +kernel
theorem dX8_enough_225 : decode cX8_enough 225 = .ok (.getfield 19, 3) := by decide +kernel
theorem dX8_enough_228 : decode cX8_enough 228 = .ok (.iconst 3, 1) := by decide +kernel
theorem dX8_enough_229 : decode cX8_enough 229 = .ok (.iload 5, 2) := by decide +kernel
theorem dX8_enough_231 : decode cX8_enough 231 = .ok (.iadd, 1) := by decide +kernel
theorem dX8_enough_232 : decode cX8_enough 232 = .ok (.iconst 4, 1) := by decide +kernel
theorem dX8_enough_233 : decode cX8_enough 233 = .ok (.iastore, 1) := by decide +kernel
theorem dX8_enough_234 : decode cX8_enough 234 = .ok (.aload_n 0, 1) := by decide +kernel
theorem dX8_enough_235 : decode cX8_enough 235 = .ok (.getfield 19, 3) := by decide +kernel
theorem dX8_enough_238 : decode cX8_enough 238 = .ok (.bipush 12, 2) := by decide +kernel
theorem dX8_enough_240 : decode cX8_enough 240 = .ok (.iload 5, 2) := by decide +kernel
theorem dX8_enough_242 : decode cX8_enough 242 = .ok (.iadd, 1) := by decide +kernel
theorem dX8_enough_243 : decode cX8_enough 243 = .ok (.iconst 0, 1) := by decide +kernel
theorem dX8_enough_244 : decode cX8_enough 244 = .ok (.iastore, 1) := by decide +kernel
theorem dX8_enough_245 : decode cX8_enough 245 = .ok (.iinc 4 1, 3) := by decide +kernel
theorem dX8_enough_248 : decode cX8_enough 248 = .ok (.goto (-184), 3) := by decide +kernel
theorem dX8_enough_251 : decode cX8_enough 251 = .ok (.iload_n 1, 1) := by decide +kernel
theorem dX8_enough_252 : decode cX8_enough 252 = .ok (.ifCond .ne 7, 3) := by decide +kernel
theorem dX8_enough_255 : decode cX8_enough 255 = .ok (.iload_n 2, 1) := by decide +kernel
theorem dX8_enough_256 : decode cX8_enough 256 = .ok (.goto 4, 3) := by decide +kernel
theorem dX8_enough_259 : decode cX8_enough 259 = .ok (.iload_n 3, 1) := by decide +kernel
theorem dX8_enough_260 : decode cX8_enough 260 = .ok (.ireturn, 1) := by decide +kernel
theorem dX8_flash_0 : decode cX8_flash 0 = .ok (.aload_n 0, 1) := by decide +kernel
theorem dX8_flash_1 : decode cX8_flash 1 = .ok (.iconst 0, 1) := by decide +kernel
theorem dX8_flash_2 : decode cX8_flash 2 = .ok (.putfield 59, 3) := by decide +kernel
theorem dX8_flash_5 : decode cX8_flash 5 = .ok (.aload_n 0, 1) := by decide +kernel
theorem dX8_flash_6 : decode cX8_flash 6 = .ok (.iload_n 1, 1) := by decide +kernel
theorem dX8_flash_7 : decode cX8_flash 7 = .ok (.invokevirtual 150, 3) := by decide +kernel
theorem dX8_flash_10 : decode cX8_flash 10 = .ok (.ifCond .eq 17, 3) := by decide +kernel
theorem dX8_flash_13 : decode cX8_flash 13 = .ok (.iload_n 2, 1) := by decide +kernel
theorem dX8_flash_14 : decode cX8_flash 14 = .ok (.invokestatic 179, 3) := by decide +kernel
theorem dX8_flash_17 : decode cX8_flash 17 = .ok (.ifCond .eq 10, 3) := by decide +kernel
theorem dX8_flash_20 : decode cX8_flash 20 = .ok (.iload_n 3, 1) := by decide +kernel
theorem dX8_flash_21 : decode cX8_flash 21 = .ok (.invokestatic 179, 3) := by decide +kernel
theorem dX8_flash_24 : decode cX8_flash 24 = .ok (.ifCond .ne 5, 3) := by decide +kernel
theorem dX8_flash_27 : decode cX8_flash 27 = .ok (.iconst (-1), 1) := by decide +kernel
theorem dX8_flash_28 : decode cX8_flash 28 = .ok (.ireturn, 1) := by decide +kernel
theorem dX8_flash_29 : decode cX8_flash 29 = .ok (.iload_n 2, 1) := by decide +kernel
theorem dX8_flash_30 : decode cX8_flash 30 = .ok (.iload_n 3, 1) := by decide +kernel
theorem dX8_flash_31 : decode cX8_flash 31 = .ok (.ixor, 1) := by decide +kernel
theorem dX8_flash_32 : decode cX8_flash 32 = .ok (.istore 4, 2) := by decide +kernel
theorem dX8_flash_34 : decode cX8_flash 34 = .ok (.aload_n 0, 1) := by decide +kernel
theorem dX8_flash_35 : decode cX8_flash 35 = .ok (.iload_n 1, 1) := by decide +kernel
theorem dX8_flash_36 : decode cX8_flash 36 = .ok (.invokevirtual 121, 3) := by decide +kernel
theorem dX8_flash_39 : decode cX8_flash 39 = .ok (.istore 5, 2) := by decide +kernel
theorem dX8_flash_41 : decode cX8_flash 41 = .ok (.iconst 0, 1) := by decide +kernel
theorem dX8_flash_42 : decode cX8_flash 42 = .ok (.istore 6, 2) := by decide +kernel
theorem dX8_flash_44 : decode cX8_flash 44 = .ok (.iconst 1, 1) := by decide +kernel
theorem dX8_flash_45 : decode cX8_flash 45 = .ok (.istore 7, 2) := by decide +kernel
theorem dX8_flash_47 : decode cX8_flash 47 = .ok (.iload 7, 2) := by decide +kernel
theorem dX8_flash_49 : decode cX8_flash 49 = .ok (.iload 4, 2) := by decide +kernel
theorem dX8_flash_51 : decode cX8_flash 51 = .ok (.if_icmp .ge 43, 3) := by decide +kernel
theorem dX8_flash_54 : decode cX8_flash 54 = .ok (.iload 6, 2) := by decide +kernel
theorem dX8_flash_56 : decode cX8_flash 56 = .ok (.ifCond .ne 25, 3) := by decide +kernel
theorem dX8_flash_59 : decode cX8_flash 59 = .ok (.iload 7, 2) := by decide +kernel
theorem dX8_flash_61 : decode cX8_flash 61 = .ok (.iload 4, 2) := by decide +kernel
theorem dX8_flash_63 : decode cX8_flash 63 = .ok (.iconst (-1), 1) := by decide +kernel
theorem dX8_flash_64 : decode cX8_flash 64 = .ok (.ixor, 1) := by decide +kernel
theorem dX8_flash_65 : decode cX8_flash 65 = .ok (.iand, 1) := by decide +kernel
theorem dX8_flash_66 : decode cX8_flash 66 = .ok (.ifCond .ne 19, 3) := by decide +kernel
theorem dX8_flash_69 : decode cX8_flash 69 = .ok (.iload 5, 2) := by decide +kernel
theorem dX8_flash_71 : decode cX8_flash 71 = .ok (.iload_n 2, 1) := by decide +kernel
theorem dX8_flash_72 : decode cX8_flash 72 = .ok (.iload 7, 2) := by decide +kernel
theorem dX8_flash_74 : decode cX8_flash 74 = .ok (.ixor, 1) := by decide +kernel
theorem dX8_flash_75 : decode cX8_flash 75 = .ok (.invokestatic 130, 3) := by decide +kernel
theorem dX8_flash_78 : decode cX8_flash 78 = .ok (.ifCond .eq 7, 3) := by decide +kernel
theorem dX8_flash_81 : decode cX8_flash 81 = .ok (.iconst 1, 1) := by decide +kernel
theorem dX8_flash_82 : decode cX8_flash 82 = .ok (.goto 4, 3) := by decide +kernel
theorem dX8_flash_85 : decode cX8_flash 85 = .ok (.iconst 0, 1) := by decide +kernel
theorem dX8_flash_86 : decode cX8_flash 86 = .ok (.istore 6, 2) := by decide +kernel
theorem dX8_flash_88 : decode cX8_flash 88 = .ok (.iinc 7 1, 3) := by decide +kernel
theorem dX8_flash_91 : decode cX8_flash 91 = .ok (.goto (-44), 3) := by decide +kernel
theorem dX8_flash_94 : decode cX8_flash 94 = .ok (.iload 6, 2) := by decide +kernel
theorem dX8_flash_96 : decode cX8_flash 96 = .ok (.ifCond .eq 25, 3) := by decide +kernel
theorem dX8_flash_99 : decode cX8_flash 99 = .ok (.iload 5, 2) := by decide +kernel
theorem dX8_flash_101 : decode cX8_flash 101 = .ok (.iload_n 2, 1) := by decide +kernel
theorem dX8_flash_102 : decode cX8_flash 102 = .ok (.invokestatic 130, 3) := by decide +kernel
theorem dX8_flash_105 : decode cX8_flash 105 = .ok (.ifCond .ne 16, 3) := by decide +kernel
theorem dX8_flash_108 : decode cX8_flash 108 = .ok (.iload 5, 2) := by decide +kernel
theorem dX8_flash_110 : decode cX8_flash 110 = .ok (.iload_n 3, 1) := by decide +kernel
theorem dX8_flash_111 : decode cX8_flash 111 = .ok (.invokestatic 130, 3) := by decide +kernel
theorem dX8_flash_114 : decode cX8_flash 114 = .ok (.ifCond .ne 7, 3) := by decide +kernel
theorem dX8_flash_117 : decode cX8_flash 117 = .ok (.iconst 1, 1) := by decide +kernel
theorem dX8_flash_118 : decode cX8_flash 118 = .ok (.goto 4, 3) := by decide +kernel
theorem dX8_flash_121 : decode cX8_flash 121 = .ok (.iconst 0, 1) := by decide +kernel
theorem dX8_flash_122 : decode cX8_flash 122 = .ok (.ireturn, 1) := by decide +kernel
theorem dX8_gcd_0 : decode cX8_gcd 0 = .ok (.lload_n 0, 1) := by decide +kernel
theorem dX8_gcd_1 : decode cX8_gcd 1 = .ok (.lstore 4, 2) := by decide +kernel
theorem dX8_gcd_3 : decode cX8_gcd 3 = .ok (.lload_n 2, 1) := by decide +kernel
theorem dX8_gcd_4 : decode cX8_gcd 4 = .ok (.lstore 6, 2) := by decide +kernel
theorem dX8_gcd_6 : decode cX8_gcd 6 = .ok (.lload 6, 2) := by decide +kernel
theorem dX8_gcd_8 : decode cX8_gcd 8 = .ok (.lconst 0, 1) := by decide +kernel
theorem dX8_gcd_9 : decode cX8_gcd 9 = .ok (.lcmp, 1) := by decide +kernel
theorem dX8_gcd_10 : decode cX8_gcd 10 = .ok (.ifCond .eq 21, 3) := by decide +kernel
theorem dX8_gcd_13 : decode cX8_gcd 13 = .ok (.lload 4, 2) := by decide +kernel
theorem dX8_gcd_15 : decode cX8_gcd 15 = .ok (.lload 6, 2) := by decide +kernel
theorem dX8_gcd_17 : decode cX8_gcd 17 = .ok (.lrem, 1) := by decide +kernel
theorem dX8_gcd_18 : decode cX8_gcd 18 = .ok (.lstore 8, 2) := by decide +kernel
theorem dX8_gcd_20 : decode cX8_gcd 20 = .ok (.lload 6, 2) := by decide +kernel
theorem dX8_gcd_22 : decode cX8_gcd 22 = .ok (.lstore 4, 2) := by decide +kernel
theorem dX8_gcd_24 : decode cX8_gcd 24 = .ok (.lload 8, 2) := by decide +kernel
theorem dX8_gcd_26 : decode cX8_gcd 26 = .ok (.lstore 6, 2) := by decide +kernel
theorem dX8_gcd_28 : decode cX8_gcd 28 = .ok (.goto (-22), 3) := by decide +kernel
theorem dX8_gcd_31 : decode cX8_gcd 31 = .ok (.lload 4, 2) := by decide +kernel
theorem dX8_gcd_33 : decode cX8_gcd 33 = .ok (.lreturn, 1) := by decide +kernel
theorem dX8_odds_0 : decode cX8_odds 0 = .ok (.aload_n 0, 1) := by decide +kernel
theorem dX8_odds_1 : decode cX8_odds 1 = .ok (.iconst 0, 1) := by decide +kernel
theorem dX8_odds_2 : decode cX8_odds 2 = .ok (.putfield 59, 3) := by decide +kernel
theorem dX8_odds_5 : decode cX8_odds 5 = .ok (.iload_n 1, 1) := by decide +kernel
theorem dX8_odds_6 : decode cX8_odds 6 = .ok (.iconst 0, 1) := by decide +kernel
theorem dX8_odds_7 : decode cX8_odds 7 = .ok (.bipush 10, 2) := by decide +kernel
theorem dX8_odds_9 : decode cX8_odds 9 = .ok (.invokestatic 63, 3) := by decide +kernel
theorem dX8_odds_12 : decode cX8_odds 12 = .ok (.ifCond .eq 28, 3) := by decide +kernel
theorem dX8_odds_15 : decode cX8_odds 15 = .ok (.aload_n 0, 1) := by decide +kernel
theorem dX8_odds_16 : decode cX8_odds 16 = .ok (.iload_n 2, 1) := by decide +kernel
theorem dX8_odds_17 : decode cX8_odds 17 = .ok (.invokevirtual 150, 3) := by decide +kernel
theorem dX8_odds_20 : decode cX8_odds 20 = .ok (.ifCond .eq 20, 3) := by decide +kernel
theorem dX8_odds_23 : decode cX8_odds 23 = .ok (.iload_n 3, 1) := by decide +kernel
theorem dX8_odds_24 : decode cX8_odds 24 = .ok (.invokestatic 179, 3) := by decide +kernel
theorem dX8_odds_27 : decode cX8_odds 27 = .ok (.ifCond .eq 13, 3) := by decide +kernel
theorem dX8_odds_30 : decode cX8_odds 30 = .ok (.iload 4, 2) := by decide +kernel
theorem dX8_odds_32 : decode cX8_odds 32 = .ok (.iconst 0, 1) := by decide +kernel
theorem dX8_odds_33 : decode cX8_odds 33 = .ok (.iconst 1, 1) := by decide +kernel
theorem dX8_odds_34 : decode cX8_odds 34 = .ok (.invokestatic 63, 3) := by decide +kernel
theorem dX8_odds_37 : decode cX8_odds 37 = .ok (.ifCond .ne 5, 3) := by decide +kernel
theorem dX8_odds_40 : decode cX8_odds 40 = .ok (.iconst (-1), 1) := by decide +kernel
theorem dX8_odds_41 : decode cX8_odds 41 = .ok (.ireturn, 1) := by decide +kernel
theorem dX8_odds_42 : decode cX8_odds 42 = .ok (.lconst 0, 1) := by decide +kernel
theorem dX8_odds_43 : decode cX8_odds 43 = .ok (.lstore 5, 2) := by decide +kernel
theorem dX8_odds_45 : decode cX8_odds 45 = .ok (.lconst 1, 1) := by decide +kernel
theorem dX8_odds_46 : decode cX8_odds 46 = .ok (.lstore 7, 2) := by decide +kernel
theorem dX8_odds_48 : decode cX8_odds 48 = .ok (.iconst 0, 1) := by decide +kernel
theorem dX8_odds_49 : decode cX8_odds 49 = .ok (.istore 9, 2) := by decide +kernel
theorem dX8_odds_51 : decode cX8_odds 51 = .ok (.iload 9, 2) := by decide +kernel
theorem dX8_odds_53 : decode cX8_odds 53 = .ok (.iconst 1, 1) := by decide +kernel
theorem dX8_odds_54 : decode cX8_odds 54 = .ok (.aload_n 0, 1) := by decide +kernel
theorem dX8_odds_55 : decode cX8_odds 55 = .ok (.getfield 13, 3) := by decide +kernel
theorem dX8_odds_58 : decode cX8_odds 58 = .ok (.iconst 1, 1) := by decide +kernel
theorem dX8_odds_59 : decode cX8_odds 59 = .ok (.iaload, 1) := by decide +kernel
theorem dX8_odds_60 : decode cX8_odds 60 = .ok (.ishl, 1) := by decide +kernel
theorem dX8_odds_61 : decode cX8_odds 61 = .ok (.if_icmp .ge 97, 3) := by decide +kernel
theorem dX8_odds_64 : decode cX8_odds 64 = .ok (.lconst 1, 1) := by decide +kernel
theorem dX8_odds_65 : decode cX8_odds 65 = .ok (.lstore 10, 2) := by decide +kernel
theorem dX8_odds_67 : decode cX8_odds 67 = .ok (.lconst 1, 1) := by decide +kernel
theorem dX8_odds_68 : decode cX8_odds 68 = .ok (.lstore 7, 2) := by decide +kernel
theorem dX8_odds_70 : decode cX8_odds 70 = .ok (.iconst 0, 1) := by decide +kernel
theorem dX8_odds_71 : decode cX8_odds 71 = .ok (.istore 12, 2) := by decide +kernel
theorem dX8_odds_73 : decode cX8_odds 73 = .ok (.iload 12, 2) := by decide +kernel
theorem dX8_odds_75 : decode cX8_odds 75 = .ok (.aload_n 0, 1) := by decide +kernel
theorem dX8_odds_76 : decode cX8_odds 76 = .ok (.getfield 13, 3) := by decide +kernel
theorem dX8_odds_79 : decode cX8_odds 79 = .ok (.iconst 1, 1) := by decide +kernel
theorem dX8_odds_80 : decode cX8_odds 80 = .ok (.iaload, 1) := by decide +kernel
theorem dX8_odds_81 : decode cX8_odds 81 = .ok (.if_icmp .ge 42, 3) := by decide +kernel
theorem dX8_odds_84 : decode cX8_odds 84 = .ok (.lload 10, 2) := by decide +kernel
theorem dX8_odds_86 : decode cX8_odds 86 = .ok (.iload 9, 2) := by decide +kernel
theorem dX8_odds_88 : decode cX8_odds 88 = .ok (.iload 12, 2) := by decide +kernel
theorem dX8_odds_90 : decode cX8_odds 90 = .ok (.invokestatic 130, 3) := by decide +kernel
theorem dX8_odds_93 : decode cX8_odds 93 = .ok (.ifCond .eq 8, 3) := by decide +kernel
theorem dX8_odds_96 : decode cX8_odds 96 = .ok (.iload_n 1, 1) := by decide +kernel
theorem dX8_odds_97 : decode cX8_odds 97 = .ok (.i2l, 1) := by decide +kernel
theorem dX8_odds_98 : decode cX8_odds 98 = .ok (.goto 8, 3) := by decide +kernel
theorem dX8_odds_101 : decode cX8_odds 101 = .ok (.bipush 10, 2) := by decide +kernel
theorem dX8_odds_103 : decode cX8_odds 103 = .ok (.iload_n 1, 1) := by decide +kernel
theorem dX8_odds_104 : decode cX8_odds 104 = .ok (.isub, 1) := by decide +kernel
theorem dX8_odds_105 : decode cX8_odds 105 = .ok (.i2l, 1) := by decide +kernel
theorem dX8_odds_106 : decode cX8_odds 106 = .ok (.lmul, 1) := by decide +kernel
theorem dX8_odds_107 : decode cX8_odds 107 = .ok (.lstore 10, 2) := by decide +kernel
theorem dX8_odds_109 : decode cX8_odds 109 = .ok (.lload 7, 2) := by decide +kernel
theorem dX8_odds_111 : decode cX8_odds 111 = .ok (.ldc2_w 189, 3) := by decide +kernel
theorem dX8_odds_114 : decode cX8_odds 114 = .ok (.lmul, 1) := by decide +kernel
theorem dX8_odds_115 : decode cX8_odds 115 = .ok (.lstore 7, 2) := by decide +kernel
theorem dX8_odds_117 : decode cX8_odds 117 = .ok (.iinc 12 1, 3) := by decide +kernel
theorem dX8_odds_120 : decode cX8_odds 120 = .ok (.goto (-47), 3) := by decide +kernel
theorem dX8_odds_123 : decode cX8_odds 123 = .ok (.lload 5, 2) := by decide +kernel
theorem dX8_odds_125 : decode cX8_odds 125 = .ok (.lload 10, 2) := by decide +kernel
theorem dX8_odds_127 : decode cX8_odds 127 = .ok (.lconst 0, 1) := by decide +kernel
theorem dX8_odds_128 : decode cX8_odds 128 = .ok (.lcmp, 1) := by decide +kernel
theorem dX8_odds_129 : decode cX8_odds 129 = .ok (.ifCond .le 19, 3) := by decide +kernel
theorem dX8_odds_132 : decode cX8_odds 132 = .ok (.aload_n 0, 1) := by decide +kernel
theorem dX8_odds_133 : decode cX8_odds 133 = .ok (.iload_n 2, 1) := by decide +kernel
theorem dX8_odds_134 : decode cX8_odds 134 = .ok (.iload_n 3, 1) := by decide +kernel
theorem dX8_odds_135 : decode cX8_odds 135 = .ok (.iload 9, 2) := by decide +kernel
theorem dX8_odds_137 : decode cX8_odds 137 = .ok (.invokevirtual 144, 3) := by decide +kernel
theorem dX8_odds_140 : decode cX8_odds 140 = .ok (.ifCond .eq 8, 3) := by decide +kernel
theorem dX8_odds_143 : decode cX8_odds 143 = .ok (.lload 10, 2) := by decide +kernel
theorem dX8_odds_145 : decode cX8_odds 145 = .ok (.goto 4, 3) := by decide +kernel
theorem dX8_odds_148 : decode cX8_odds 148 = .ok (.lconst 0, 1) := by decide +kernel
theorem dX8_odds_149 : decode cX8_odds 149 = .ok (.ladd, 1) := by decide +kernel
theorem dX8_odds_150 : decode cX8_odds 150 = .ok (.lstore 5, 2) := by decide +kernel
theorem dX8_odds_152 : decode cX8_odds 152 = .ok (.iinc 9 1, 3) := by decide +kernel
theorem dX8_odds_155 : decode cX8_odds 155 = .ok (.goto (-104), 3) := by decide +kernel
theorem dX8_odds_158 : decode cX8_odds 158 = .ok (.lload 5, 2) := by decide +kernel
theorem dX8_odds_160 : decode cX8_odds 160 = .ok (.lload 7, 2) := by decide +kernel
theorem dX8_odds_162 : decode cX8_odds 162 = .ok (.invokestatic 191, 3) := by decide +kernel
theorem dX8_odds_165 : decode cX8_odds 165 = .ok (.lstore 9, 2) := by decide +kernel
theorem dX8_odds_167 : decode cX8_odds 167 = .ok (.iload 4, 2) := by decide +kernel
theorem dX8_odds_169 : decode cX8_odds 169 = .ok (.ifCond .ne 11, 3) := by decide +kernel
theorem dX8_odds_172 : decode cX8_odds 172 = .ok (.lload 5, 2) := by decide +kernel
theorem dX8_odds_174 : decode cX8_odds 174 = .ok (.lload 9, 2) := by decide +kernel
theorem dX8_odds_176 : decode cX8_odds 176 = .ok (.ldiv, 1) := by decide +kernel
theorem dX8_odds_177 : decode cX8_odds 177 = .ok (.goto 8, 3) := by decide +kernel
theorem dX8_odds_180 : decode cX8_odds 180 = .ok (.lload 7, 2) := by decide +kernel
theorem dX8_odds_182 : decode cX8_odds 182 = .ok (.lload 9, 2) := by decide +kernel
theorem dX8_odds_184 : decode cX8_odds 184 = .ok (.ldiv, 1) := by decide +kernel
theorem dX8_odds_185 : decode cX8_odds 185 = .ok (.l2i, 1) := by decide +kernel
theorem dX8_odds_186 : decode cX8_odds 186 = .ok (.ireturn, 1) := by decide +kernel
theorem dX8_sees_0 : decode cX8_sees 0 = .ok (.aload_n 0, 1) := by decide +kernel
theorem dX8_sees_1 : decode cX8_sees 1 = .ok (.iconst 0, 1) := by decide +kernel
theorem dX8_sees_2 : decode cX8_sees 2 = .ok (.putfield 59, 3) := by decide +kernel
theorem dX8_sees_5 : decode cX8_sees 5 = .ok (.aload_n 0, 1) := by decide +kernel
theorem dX8_sees_6 : decode cX8_sees 6 = .ok (.iload_n 1, 1) := by decide +kernel
theorem dX8_sees_7 : decode cX8_sees 7 = .ok (.invokevirtual 150, 3) := by decide +kernel
theorem dX8_sees_10 : decode cX8_sees 10 = .ok (.ifCond .eq 19, 3) := by decide +kernel
theorem dX8_sees_13 : decode cX8_sees 13 = .ok (.iload_n 2, 1) := by decide +kernel
theorem dX8_sees_14 : decode cX8_sees 14 = .ok (.invokestatic 179, 3) := by decide +kernel
theorem dX8_sees_17 : decode cX8_sees 17 = .ok (.ifCond .eq 12, 3) := by decide +kernel
theorem dX8_sees_20 : decode cX8_sees 20 = .ok (.iload_n 3, 1) := by decide +kernel
theorem dX8_sees_21 : decode cX8_sees 21 = .ok (.iconst 0, 1) := by decide +kernel
theorem dX8_sees_22 : decode cX8_sees 22 = .ok (.iconst 1, 1) := by decide +kernel
theorem dX8_sees_23 : decode cX8_sees 23 = .ok (.invokestatic 63, 3) := by decide +kernel
theorem dX8_sees_26 : decode cX8_sees 26 = .ok (.ifCond .ne 5, 3) := by decide +kernel
theorem dX8_sees_29 : decode cX8_sees 29 = .ok (.iconst (-1), 1) := by decide +kernel
theorem dX8_sees_30 : decode cX8_sees 30 = .ok (.ireturn, 1) := by decide +kernel
theorem dX8_sees_31 : decode cX8_sees 31 = .ok (.aload_n 0, 1) := by decide +kernel
theorem dX8_sees_32 : decode cX8_sees 32 = .ok (.getfield 124, 3) := by decide +kernel
theorem dX8_sees_35 : decode cX8_sees 35 = .ok (.bipush 6, 2) := by decide +kernel
theorem dX8_sees_37 : decode cX8_sees 37 = .ok (.if_icmp .ne 6, 3) := by decide +kernel
theorem dX8_sees_40 : decode cX8_sees 40 = .ok (.bipush (-3), 2) := by decide +kernel
theorem dX8_sees_42 : decode cX8_sees 42 = .ok (.ireturn, 1) := by decide +kernel
theorem dX8_sees_43 : decode cX8_sees 43 = .ok (.aload_n 0, 1) := by decide +kernel
theorem dX8_sees_44 : decode cX8_sees 44 = .ok (.getfield 32, 3) := by decide +kernel
theorem dX8_sees_47 : decode cX8_sees 47 = .ok (.aload_n 0, 1) := by decide +kernel
theorem dX8_sees_48 : decode cX8_sees 48 = .ok (.getfield 124, 3) := by decide +kernel
theorem dX8_sees_51 : decode cX8_sees 51 = .ok (.iload_n 1, 1) := by decide +kernel
theorem dX8_sees_52 : decode cX8_sees 52 = .ok (.iastore, 1) := by decide +kernel
theorem dX8_sees_53 : decode cX8_sees 53 = .ok (.aload_n 0, 1) := by decide +kernel
theorem dX8_sees_54 : decode cX8_sees 54 = .ok (.getfield 35, 3) := by decide +kernel
theorem dX8_sees_57 : decode cX8_sees 57 = .ok (.aload_n 0, 1) := by decide +kernel
theorem dX8_sees_58 : decode cX8_sees 58 = .ok (.getfield 124, 3) := by decide +kernel
theorem dX8_sees_61 : decode cX8_sees 61 = .ok (.iload_n 2, 1) := by decide +kernel
theorem dX8_sees_62 : decode cX8_sees 62 = .ok (.iastore, 1) := by decide +kernel
theorem dX8_sees_63 : decode cX8_sees 63 = .ok (.aload_n 0, 1) := by decide +kernel
theorem dX8_sees_64 : decode cX8_sees 64 = .ok (.getfield 38, 3) := by decide +kernel
theorem dX8_sees_67 : decode cX8_sees 67 = .ok (.aload_n 0, 1) := by decide +kernel
theorem dX8_sees_68 : decode cX8_sees 68 = .ok (.getfield 124, 3) := by decide +kernel
theorem dX8_sees_71 : decode cX8_sees 71 = .ok (.iload_n 3, 1) := by decide +kernel
theorem dX8_sees_72 : decode cX8_sees 72 = .ok (.iastore, 1) := by decide +kernel
theorem dX8_sees_73 : decode cX8_sees 73 = .ok (.aload_n 0, 1) := by decide +kernel
theorem dX8_sees_74 : decode cX8_sees 74 = .ok (.dup, 1) := by decide +kernel
theorem dX8_sees_75 : decode cX8_sees 75 = .ok (.getfield 124, 3) := by decide +kernel
theorem dX8_sees_78 : decode cX8_sees 78 = .ok (.iconst 1, 1) := by decide +kernel
theorem dX8_sees_79 : decode cX8_sees 79 = .ok (.iadd, 1) := by decide +kernel
theorem dX8_sees_80 : decode cX8_sees 80 = .ok (.putfield 124, 3) := by decide +kernel
theorem dX8_sees_83 : decode cX8_sees 83 = .ok (.aload_n 0, 1) := by decide +kernel
theorem dX8_sees_84 : decode cX8_sees 84 = .ok (.getfield 124, 3) := by decide +kernel
theorem dX8_sees_87 : decode cX8_sees 87 = .ok (.ireturn, 1) := by decide +kernel
theorem dX8_forget_0 : decode cX8_forget 0 = .ok (.aload_n 0, 1) := by decide +kernel
theorem dX8_forget_1 : decode cX8_forget 1 = .ok (.iconst 0, 1) := by decide +kernel
theorem dX8_forget_2 : decode cX8_forget 2 = .ok (.putfield 59, 3) := by decide +kernel
theorem dX8_forget_5 : decode cX8_forget 5 = .ok (.aload_n 0, 1) := by decide +kernel
theorem dX8_forget_6 : decode cX8_forget 6 = .ok (.getfield 124, 3) := by decide +kernel
theorem dX8_forget_9 : decode cX8_forget 9 = .ok (.istore_n 1, 1) := by decide +kernel
theorem dX8_forget_10 : decode cX8_forget 10 = .ok (.aload_n 0, 1) := by decide +kernel
theorem dX8_forget_11 : decode cX8_forget 11 = .ok (.iconst 0, 1) := by decide +kernel
theorem dX8_forget_12 : decode cX8_forget 12 = .ok (.putfield 124, 3) := by decide +kernel
theorem dX8_forget_15 : decode cX8_forget 15 = .ok (.iload_n 1, 1) := by decide +kernel
theorem dX8_forget_16 : decode cX8_forget 16 = .ok (.ireturn, 1) := by decide +kernel
theorem dX8_unseen_0 : decode cX8_unseen 0 = .ok (.aload_n 0, 1) := by decide +kernel
theorem dX8_unseen_1 : decode cX8_unseen 1 = .ok (.iconst 0, 1) := by decide +kernel
theorem dX8_unseen_2 : decode cX8_unseen 2 = .ok (.putfield 59, 3) := by decide +kernel
theorem dX8_unseen_5 : decode cX8_unseen 5 = .ok (.iload_n 1, 1) := by decide +kernel
theorem dX8_unseen_6 : decode cX8_unseen 6 = .ok (.iconst 1, 1) := by decide +kernel
theorem dX8_unseen_7 : decode cX8_unseen 7 = .ok (.iconst 2, 1) := by decide +kernel
theorem dX8_unseen_8 : decode cX8_unseen 8 = .ok (.invokestatic 63, 3) := by decide +kernel
theorem dX8_unseen_11 : decode cX8_unseen 11 = .ok (.ifCond .ne 5, 3) := by decide +kernel
theorem dX8_unseen_14 : decode cX8_unseen 14 = .ok (.iconst (-1), 1) := by decide +kernel
theorem dX8_unseen_15 : decode cX8_unseen 15 = .ok (.ireturn, 1) := by decide +kernel
theorem dX8_unseen_16 : decode cX8_unseen 16 = .ok (.iconst 0, 1) := by decide +kernel
theorem dX8_unseen_17 : decode cX8_unseen 17 = .ok (.istore_n 2, 1) := by decide +kernel
theorem dX8_unseen_18 : decode cX8_unseen 18 = .ok (.iconst 0, 1) := by decide +kernel
theorem dX8_unseen_19 : decode cX8_unseen 19 = .ok (.istore_n 3, 1) := by decide +kernel
theorem dX8_unseen_20 : decode cX8_unseen 20 = .ok (.iload_n 3, 1) := by decide +kernel
theorem dX8_unseen_21 : decode cX8_unseen 21 = .ok (.aload_n 0, 1) := by decide +kernel
theorem dX8_unseen_22 : decode cX8_unseen 22 = .ok (.getfield 13, 3) := by decide +kernel
theorem dX8_unseen_25 : decode cX8_unseen 25 = .ok (.iconst 1, 1) := by decide +kernel
theorem dX8_unseen_26 : decode cX8_unseen 26 = .ok (.iaload, 1) := by decide +kernel
theorem dX8_unseen_27 : decode cX8_unseen 27 = .ok (.if_icmp .ge 127, 3) := by decide +kernel
theorem dX8_unseen_30 : decode cX8_unseen 30 = .ok (.aload_n 0, 1) := by decide +kernel
theorem dX8_unseen_31 : decode cX8_unseen 31 = .ok (.getfield 19, 3) := by decide +kernel
theorem dX8_unseen_34 : decode cX8_unseen 34 = .ok (.bipush 21, 2) := by decide +kernel
theorem dX8_unseen_36 : decode cX8_unseen 36 = .ok (.iload_n 3, 1) := by decide +kernel
theorem dX8_unseen_37 : decode cX8_unseen 37 = .ok (.iadd, 1) := by decide +kernel
theorem dX8_unseen_38 : decode cX8_unseen 38 = .ok (.iaload, 1) := by decide +kernel
theorem dX8_unseen_39 : decode cX8_unseen 39 = .ok (.istore 4, 2) := by decide +kernel
theorem dX8_unseen_41 : decode cX8_unseen 41 = .ok (.aload_n 0, 1) := by decide +kernel
theorem dX8_unseen_42 : decode cX8_unseen 42 = .ok (.getfield 19, 3) := by decide +kernel
theorem dX8_unseen_45 : decode cX8_unseen 45 = .ok (.bipush 21, 2) := by decide +kernel
theorem dX8_unseen_47 : decode cX8_unseen 47 = .ok (.iload_n 3, 1) := by decide +kernel
theorem dX8_unseen_48 : decode cX8_unseen 48 = .ok (.iadd, 1) := by decide +kernel
theorem dX8_unseen_49 : decode cX8_unseen 49 = .ok (.iload_n 1, 1) := by decide +kernel
theorem dX8_unseen_50 : decode cX8_unseen 50 = .ok (.iastore, 1) := by decide +kernel
theorem dX8_unseen_51 : decode cX8_unseen 51 = .ok (.iconst 1, 1) := by decide +kernel
theorem dX8_unseen_52 : decode cX8_unseen 52 = .ok (.istore 5, 2) := by decide +kernel
theorem dX8_unseen_54 : decode cX8_unseen 54 = .ok (.iconst 0, 1) := by decide +kernel
theorem dX8_unseen_55 : decode cX8_unseen 55 = .ok (.istore 6, 2) := by decide +kernel
theorem dX8_unseen_57 : decode cX8_unseen 57 = .ok (.iload 6, 2) := by decide +kernel
theorem dX8_unseen_59 : decode cX8_unseen 59 = .ok (.aload_n 0, 1) := by decide +kernel
theorem dX8_unseen_60 : decode cX8_unseen 60 = .ok (.getfield 124, 3) := by decide +kernel
theorem dX8_unseen_63 : decode cX8_unseen 63 = .ok (.if_icmp .ge 59, 3) := by decide +kernel
theorem dX8_unseen_66 : decode cX8_unseen 66 = .ok (.iload 5, 2) := by decide +kernel
theorem dX8_unseen_68 : decode cX8_unseen 68 = .ok (.ifCond .eq 45, 3) := by decide +kernel
theorem dX8_unseen_71 : decode cX8_unseen 71 = .ok (.aload_n 0, 1) := by decide +kernel
theorem dX8_unseen_72 : decode cX8_unseen 72 = .ok (.aload_n 0, 1) := by decide +kernel
theorem dX8_unseen_73 : decode cX8_unseen 73 = .ok (.getfield 32, 3) := by decide +kernel
theorem dX8_unseen_76 : decode cX8_unseen 76 = .ok (.iload 6, 2) := by decide +kernel
theorem dX8_unseen_78 : decode cX8_unseen 78 = .ok (.iaload, 1) := by decide +kernel
theorem dX8_unseen_79 : decode cX8_unseen 79 = .ok (.aload_n 0, 1) := by decide +kernel
theorem dX8_unseen_80 : decode cX8_unseen 80 = .ok (.getfield 35, 3) := by decide +kernel
theorem dX8_unseen_83 : decode cX8_unseen 83 = .ok (.iload 6, 2) := by decide +kernel
theorem dX8_unseen_85 : decode cX8_unseen 85 = .ok (.iaload, 1) := by decide +kernel
theorem dX8_unseen_86 : decode cX8_unseen 86 = .ok (.iconst 0, 1) := by decide +kernel
theorem dX8_unseen_87 : decode cX8_unseen 87 = .ok (.invokevirtual 144, 3) := by decide +kernel
theorem dX8_unseen_90 : decode cX8_unseen 90 = .ok (.aload_n 0, 1) := by decide +kernel
theorem dX8_unseen_91 : decode cX8_unseen 91 = .ok (.getfield 38, 3) := by decide +kernel
theorem dX8_unseen_94 : decode cX8_unseen 94 = .ok (.iload 6, 2) := by decide +kernel
theorem dX8_unseen_96 : decode cX8_unseen 96 = .ok (.iaload, 1) := by decide +kernel
theorem dX8_unseen_97 : decode cX8_unseen 97 = .ok (.iconst 1, 1) := by decide +kernel
theorem dX8_unseen_98 : decode cX8_unseen 98 = .ok (.if_icmp .ne 7, 3) := by decide +kernel
theorem dX8_unseen_101 : decode cX8_unseen 101 = .ok (.iconst 1, 1) := by decide +kernel
theorem dX8_unseen_102 : decode cX8_unseen 102 = .ok (.goto 4, 3) := by decide +kernel
theorem dX8_unseen_105 : decode cX8_unseen 105 = .ok (.iconst 0, 1) := by decide +kernel
theorem dX8_unseen_106 : decode cX8_unseen 106 = .ok (.if_icmp .ne 7, 3) := by decide +kernel
theorem dX8_unseen_109 : decode cX8_unseen 109 = .ok (.iconst 1, 1) := by decide +kernel
theorem dX8_unseen_110 : decode cX8_unseen 110 = .ok (.goto 4, 3) := by decide +kernel
theorem dX8_unseen_113 : decode cX8_unseen 113 = .ok (.iconst 0, 1) := by decide +kernel
theorem dX8_unseen_114 : decode cX8_unseen 114 = .ok (.istore 5, 2) := by decide +kernel
theorem dX8_unseen_116 : decode cX8_unseen 116 = .ok (.iinc 6 1, 3) := by decide +kernel
theorem dX8_unseen_119 : decode cX8_unseen 119 = .ok (.goto (-62), 3) := by decide +kernel
theorem dX8_unseen_122 : decode cX8_unseen 122 = .ok (.aload_n 0, 1) := by decide +kernel
theorem dX8_unseen_123 : decode cX8_unseen 123 = .ok (.getfield 19, 3) := by decide +kernel
theorem dX8_unseen_126 : decode cX8_unseen 126 = .ok (.bipush 21, 2) := by decide +kernel
theorem dX8_unseen_128 : decode cX8_unseen 128 = .ok (.iload_n 3, 1) := by decide +kernel
theorem dX8_unseen_129 : decode cX8_unseen 129 = .ok (.iadd, 1) := by decide +kernel
theorem dX8_unseen_130 : decode cX8_unseen 130 = .ok (.iload 4, 2) := by decide +kernel
theorem dX8_unseen_132 : decode cX8_unseen 132 = .ok (.iastore, 1) := by decide +kernel
theorem dX8_unseen_133 : decode cX8_unseen 133 = .ok (.iload_n 2, 1) := by decide +kernel
theorem dX8_unseen_134 : decode cX8_unseen 134 = .ok (.iload 5, 2) := by decide +kernel
theorem dX8_unseen_136 : decode cX8_unseen 136 = .ok (.ifCond .eq 9, 3) := by decide +kernel
theorem dX8_unseen_139 : decode cX8_unseen 139 = .ok (.iconst 1, 1) := by decide +kernel
theorem dX8_unseen_140 : decode cX8_unseen 140 = .ok (.iload_n 3, 1) := by decide +kernel
theorem dX8_unseen_141 : decode cX8_unseen 141 = .ok (.ishl, 1) := by decide +kernel
theorem dX8_unseen_142 : decode cX8_unseen 142 = .ok (.goto 4, 3) := by decide +kernel
theorem dX8_unseen_145 : decode cX8_unseen 145 = .ok (.iconst 0, 1) := by decide +kernel
theorem dX8_unseen_146 : decode cX8_unseen 146 = .ok (.ior, 1) := by decide +kernel
theorem dX8_unseen_147 : decode cX8_unseen 147 = .ok (.istore_n 2, 1) := by decide +kernel
theorem dX8_unseen_148 : decode cX8_unseen 148 = .ok (.iinc 3 1, 3) := by decide +kernel
theorem dX8_unseen_151 : decode cX8_unseen 151 = .ok (.goto (-131), 3) := by decide +kernel
theorem dX8_unseen_154 : decode cX8_unseen 154 = .ok (.iload_n 2, 1) := by decide +kernel
theorem dX8_unseen_155 : decode cX8_unseen 155 = .ok (.ireturn, 1) := by decide +kernel
theorem dX8_keep_0 : decode cX8_keep 0 = .ok (.aload_n 0, 1) := by decide +kernel
theorem dX8_keep_1 : decode cX8_keep 1 = .ok (.iconst 0, 1) := by decide +kernel
theorem dX8_keep_2 : decode cX8_keep 2 = .ok (.putfield 59, 3) := by decide +kernel
theorem dX8_keep_5 : decode cX8_keep 5 = .ok (.iload_n 1, 1) := by decide +kernel
theorem dX8_keep_6 : decode cX8_keep 6 = .ok (.iconst 0, 1) := by decide +kernel
theorem dX8_keep_7 : decode cX8_keep 7 = .ok (.iconst 1, 1) := by decide +kernel
theorem dX8_keep_8 : decode cX8_keep 8 = .ok (.invokestatic 63, 3) := by decide +kernel
theorem dX8_keep_11 : decode cX8_keep 11 = .ok (.ifCond .ne 5, 3) := by decide +kernel
theorem dX8_keep_14 : decode cX8_keep 14 = .ok (.iconst (-1), 1) := by decide +kernel
theorem dX8_keep_15 : decode cX8_keep 15 = .ok (.ireturn, 1) := by decide +kernel
theorem dX8_keep_16 : decode cX8_keep 16 = .ok (.iconst 0, 1) := by decide +kernel
theorem dX8_keep_17 : decode cX8_keep 17 = .ok (.istore_n 2, 1) := by decide +kernel
theorem dX8_keep_18 : decode cX8_keep 18 = .ok (.iload_n 2, 1) := by decide +kernel
theorem dX8_keep_19 : decode cX8_keep 19 = .ok (.bipush 30, 2) := by decide +kernel
theorem dX8_keep_21 : decode cX8_keep 21 = .ok (.if_icmp .ge 26, 3) := by decide +kernel
theorem dX8_keep_24 : decode cX8_keep 24 = .ok (.aload_n 0, 1) := by decide +kernel
theorem dX8_keep_25 : decode cX8_keep 25 = .ok (.getfield 25, 3) := by decide +kernel
theorem dX8_keep_28 : decode cX8_keep 28 = .ok (.bipush 30, 2) := by decide +kernel
theorem dX8_keep_30 : decode cX8_keep 30 = .ok (.iload_n 1, 1) := by decide +kernel
theorem dX8_keep_31 : decode cX8_keep 31 = .ok (.imul, 1) := by decide +kernel
theorem dX8_keep_32 : decode cX8_keep 32 = .ok (.iload_n 2, 1) := by decide +kernel
theorem dX8_keep_33 : decode cX8_keep 33 = .ok (.iadd, 1) := by decide +kernel
theorem dX8_keep_34 : decode cX8_keep 34 = .ok (.aload_n 0, 1) := by decide +kernel
theorem dX8_keep_35 : decode cX8_keep 35 = .ok (.getfield 19, 3) := by decide +kernel
theorem dX8_keep_38 : decode cX8_keep 38 = .ok (.iload_n 2, 1) := by decide +kernel
theorem dX8_keep_39 : decode cX8_keep 39 = .ok (.iaload, 1) := by decide +kernel
theorem dX8_keep_40 : decode cX8_keep 40 = .ok (.iastore, 1) := by decide +kernel
theorem dX8_keep_41 : decode cX8_keep 41 = .ok (.iinc 2 1, 3) := by decide +kernel
theorem dX8_keep_44 : decode cX8_keep 44 = .ok (.goto (-26), 3) := by decide +kernel
theorem dX8_keep_47 : decode cX8_keep 47 = .ok (.aload_n 0, 1) := by decide +kernel
theorem dX8_keep_48 : decode cX8_keep 48 = .ok (.getfield 28, 3) := by decide +kernel
theorem dX8_keep_51 : decode cX8_keep 51 = .ok (.iload_n 1, 1) := by decide +kernel
theorem dX8_keep_52 : decode cX8_keep 52 = .ok (.iconst 1, 1) := by decide +kernel
theorem dX8_keep_53 : decode cX8_keep 53 = .ok (.bastore, 1) := by decide +kernel
theorem dX8_keep_54 : decode cX8_keep 54 = .ok (.aload_n 0, 1) := by decide +kernel
theorem dX8_keep_55 : decode cX8_keep 55 = .ok (.getfield 13, 3) := by decide +kernel
theorem dX8_keep_58 : decode cX8_keep 58 = .ok (.iconst 1, 1) := by decide +kernel
theorem dX8_keep_59 : decode cX8_keep 59 = .ok (.iaload, 1) := by decide +kernel
theorem dX8_keep_60 : decode cX8_keep 60 = .ok (.ireturn, 1) := by decide +kernel
theorem dX8_back_0 : decode cX8_back 0 = .ok (.aload_n 0, 1) := by decide +kernel
theorem dX8_back_1 : decode cX8_back 1 = .ok (.iconst 0, 1) := by decide +kernel
theorem dX8_back_2 : decode cX8_back 2 = .ok (.putfield 59, 3) := by decide +kernel
theorem dX8_back_5 : decode cX8_back 5 = .ok (.iload_n 1, 1) := by decide +kernel
theorem dX8_back_6 : decode cX8_back 6 = .ok (.iconst 0, 1) := by decide +kernel
theorem dX8_back_7 : decode cX8_back 7 = .ok (.iconst 1, 1) := by decide +kernel
theorem dX8_back_8 : decode cX8_back 8 = .ok (.invokestatic 63, 3) := by decide +kernel
theorem dX8_back_11 : decode cX8_back 11 = .ok (.ifCond .ne 5, 3) := by decide +kernel
theorem dX8_back_14 : decode cX8_back 14 = .ok (.iconst (-1), 1) := by decide +kernel
theorem dX8_back_15 : decode cX8_back 15 = .ok (.ireturn, 1) := by decide +kernel
theorem dX8_back_16 : decode cX8_back 16 = .ok (.aload_n 0, 1) := by decide +kernel
theorem dX8_back_17 : decode cX8_back 17 = .ok (.getfield 28, 3) := by decide +kernel
theorem dX8_back_20 : decode cX8_back 20 = .ok (.iload_n 1, 1) := by decide +kernel
theorem dX8_back_21 : decode cX8_back 21 = .ok (.baload, 1) := by decide +kernel
theorem dX8_back_22 : decode cX8_back 22 = .ok (.ifCond .ne 6, 3) := by decide +kernel
theorem dX8_back_25 : decode cX8_back 25 = .ok (.bipush (-2), 2) := by decide +kernel
theorem dX8_back_27 : decode cX8_back 27 = .ok (.ireturn, 1) := by decide +kernel
theorem dX8_back_28 : decode cX8_back 28 = .ok (.iconst 0, 1) := by decide +kernel
theorem dX8_back_29 : decode cX8_back 29 = .ok (.istore_n 2, 1) := by decide +kernel
theorem dX8_back_30 : decode cX8_back 30 = .ok (.iload_n 2, 1) := by decide +kernel
theorem dX8_back_31 : decode cX8_back 31 = .ok (.bipush 30, 2) := by decide +kernel
theorem dX8_back_33 : decode cX8_back 33 = .ok (.if_icmp .ge 26, 3) := by decide +kernel
theorem dX8_back_36 : decode cX8_back 36 = .ok (.aload_n 0, 1) := by decide +kernel
theorem dX8_back_37 : decode cX8_back 37 = .ok (.getfield 19, 3) := by decide +kernel
theorem dX8_back_40 : decode cX8_back 40 = .ok (.iload_n 2, 1) := by decide +kernel
theorem dX8_back_41 : decode cX8_back 41 = .ok (.aload_n 0, 1) := by decide +kernel
theorem dX8_back_42 : decode cX8_back 42 = .ok (.getfield 25, 3) := by decide +kernel
theorem dX8_back_45 : decode cX8_back 45 = .ok (.bipush 30, 2) := by decide +kernel
theorem dX8_back_47 : decode cX8_back 47 = .ok (.iload_n 1, 1) := by decide +kernel
theorem dX8_back_48 : decode cX8_back 48 = .ok (.imul, 1) := by decide +kernel
theorem dX8_back_49 : decode cX8_back 49 = .ok (.iload_n 2, 1) := by decide +kernel
theorem dX8_back_50 : decode cX8_back 50 = .ok (.iadd, 1) := by decide +kernel
theorem dX8_back_51 : decode cX8_back 51 = .ok (.iaload, 1) := by decide +kernel
theorem dX8_back_52 : decode cX8_back 52 = .ok (.iastore, 1) := by decide +kernel
theorem dX8_back_53 : decode cX8_back 53 = .ok (.iinc 2 1, 3) := by decide +kernel
theorem dX8_back_56 : decode cX8_back 56 = .ok (.goto (-26), 3) := by decide +kernel
theorem dX8_back_59 : decode cX8_back 59 = .ok (.aload_n 0, 1) := by decide +kernel
theorem dX8_back_60 : decode cX8_back 60 = .ok (.iconst 0, 1) := by decide +kernel
theorem dX8_back_61 : decode cX8_back 61 = .ok (.putfield 127, 3) := by decide +kernel
theorem dX8_back_64 : decode cX8_back 64 = .ok (.aload_n 0, 1) := by decide +kernel
theorem dX8_back_65 : decode cX8_back 65 = .ok (.getfield 13, 3) := by decide +kernel
theorem dX8_back_68 : decode cX8_back 68 = .ok (.iconst 1, 1) := by decide +kernel
theorem dX8_back_69 : decode cX8_back 69 = .ok (.iaload, 1) := by decide +kernel
theorem dX8_back_70 : decode cX8_back 70 = .ok (.ireturn, 1) := by decide +kernel
theorem dX8_count_0 : decode cX8_count 0 = .ok (.aload_n 0, 1) := by decide +kernel
theorem dX8_count_1 : decode cX8_count 1 = .ok (.iconst 0, 1) := by decide +kernel
theorem dX8_count_2 : decode cX8_count 2 = .ok (.putfield 59, 3) := by decide +kernel
theorem dX8_count_5 : decode cX8_count 5 = .ok (.iload_n 1, 1) := by decide +kernel
theorem dX8_count_6 : decode cX8_count 6 = .ok (.iconst 0, 1) := by decide +kernel
theorem dX8_count_7 : decode cX8_count 7 = .ok (.bipush 7, 2) := by decide +kernel
theorem dX8_count_9 : decode cX8_count 9 = .ok (.invokestatic 63, 3) := by decide +kernel
theorem dX8_count_12 : decode cX8_count 12 = .ok (.ifCond .ne 5, 3) := by decide +kernel
theorem dX8_count_15 : decode cX8_count 15 = .ok (.iconst (-1), 1) := by decide +kernel
theorem dX8_count_16 : decode cX8_count 16 = .ok (.ireturn, 1) := by decide +kernel
theorem dX8_count_17 : decode cX8_count 17 = .ok (.iload_n 1, 1) := by decide +kernel
theorem dX8_count_18 : decode cX8_count 18 = .ok (.iconst 3, 1) := by decide +kernel
theorem dX8_count_19 : decode cX8_count 19 = .ok (.if_icmp .ge 10, 3) := by decide +kernel
theorem dX8_count_22 : decode cX8_count 22 = .ok (.aload_n 0, 1) := by decide +kernel
theorem dX8_count_23 : decode cX8_count 23 = .ok (.getfield 13, 3) := by decide +kernel
theorem dX8_count_26 : decode cX8_count 26 = .ok (.iload_n 1, 1) := by decide +kernel
theorem dX8_count_27 : decode cX8_count 27 = .ok (.iaload, 1) := by decide +kernel
theorem dX8_count_28 : decode cX8_count 28 = .ok (.ireturn, 1) := by decide +kernel
theorem dX8_count_29 : decode cX8_count 29 = .ok (.iload_n 1, 1) := by decide +kernel
theorem dX8_count_30 : decode cX8_count 30 = .ok (.iconst 4, 1) := by decide +kernel
theorem dX8_count_31 : decode cX8_count 31 = .ok (.if_icmp .le 33, 3) := by decide +kernel
theorem dX8_count_34 : decode cX8_count 34 = .ok (.iload_n 1, 1) := by decide +kernel
theorem dX8_count_35 : decode cX8_count 35 = .ok (.iconst 5, 1) := by decide +kernel
theorem dX8_count_36 : decode cX8_count 36 = .ok (.if_icmp .ne 10, 3) := by decide +kernel
theorem dX8_count_39 : decode cX8_count 39 = .ok (.aload_n 0, 1) := by decide +kernel
theorem dX8_count_40 : decode cX8_count 40 = .ok (.getfield 124, 3) := by decide +kernel
theorem dX8_count_43 : decode cX8_count 43 = .ok (.goto 20, 3) := by decide +kernel
theorem dX8_count_46 : decode cX8_count 46 = .ok (.iload_n 1, 1) := by decide +kernel
theorem dX8_count_47 : decode cX8_count 47 = .ok (.bipush 6, 2) := by decide +kernel
theorem dX8_count_49 : decode cX8_count 49 = .ok (.if_icmp .ne 10, 3) := by decide +kernel
theorem dX8_count_52 : decode cX8_count 52 = .ok (.aload_n 0, 1) := by decide +kernel
theorem dX8_count_53 : decode cX8_count 53 = .ok (.getfield 67, 3) := by decide +kernel
theorem dX8_count_56 : decode cX8_count 56 = .ok (.goto 7, 3) := by decide +kernel
theorem dX8_count_59 : decode cX8_count 59 = .ok (.aload_n 0, 1) := by decide +kernel
theorem dX8_count_60 : decode cX8_count 60 = .ok (.getfield 127, 3) := by decide +kernel
theorem dX8_count_63 : decode cX8_count 63 = .ok (.ireturn, 1) := by decide +kernel
theorem dX8_count_64 : decode cX8_count 64 = .ok (.iconst 0, 1) := by decide +kernel
theorem dX8_count_65 : decode cX8_count 65 = .ok (.istore_n 2, 1) := by decide +kernel
theorem dX8_count_66 : decode cX8_count 66 = .ok (.iconst 0, 1) := by decide +kernel
theorem dX8_count_67 : decode cX8_count 67 = .ok (.istore_n 3, 1) := by decide +kernel
theorem dX8_count_68 : decode cX8_count 68 = .ok (.iload_n 3, 1) := by decide +kernel
theorem dX8_count_69 : decode cX8_count 69 = .ok (.aload_n 0, 1) := by decide +kernel
theorem dX8_count_70 : decode cX8_count 70 = .ok (.getfield 13, 3) := by decide +kernel
theorem dX8_count_73 : decode cX8_count 73 = .ok (.iconst 2, 1) := by decide +kernel
theorem dX8_count_74 : decode cX8_count 74 = .ok (.iaload, 1) := by decide +kernel
theorem dX8_count_75 : decode cX8_count 75 = .ok (.if_icmp .ge 61, 3) := by decide +kernel
theorem dX8_count_78 : decode cX8_count 78 = .ok (.aload_n 0, 1) := by decide +kernel
theorem dX8_count_79 : decode cX8_count 79 = .ok (.iload_n 3, 1) := by decide +kernel
theorem dX8_count_80 : decode cX8_count 80 = .ok (.invokevirtual 121, 3) := by decide +kernel
theorem dX8_count_83 : decode cX8_count 83 = .ok (.istore 4, 2) := by decide +kernel
theorem dX8_count_85 : decode cX8_count 85 = .ok (.iload_n 2, 1) := by decide +kernel
theorem dX8_count_86 : decode cX8_count 86 = .ok (.iload_n 1, 1) := by decide +kernel
theorem dX8_count_87 : decode cX8_count 87 = .ok (.iconst 3, 1) := by decide +kernel
theorem dX8_count_88 : decode cX8_count 88 = .ok (.if_icmp .ne 19, 3) := by decide +kernel
theorem dX8_count_91 : decode cX8_count 91 = .ok (.iload 4, 2) := by decide +kernel
theorem dX8_count_93 : decode cX8_count 93 = .ok (.aload_n 0, 1) := by decide +kernel
theorem dX8_count_94 : decode cX8_count 94 = .ok (.getfield 19, 3) := by decide +kernel
theorem dX8_count_97 : decode cX8_count 97 = .ok (.iconst 0, 1) := by decide +kernel
theorem dX8_count_98 : decode cX8_count 98 = .ok (.iload_n 3, 1) := by decide +kernel
theorem dX8_count_99 : decode cX8_count 99 = .ok (.iadd, 1) := by decide +kernel
theorem dX8_count_100 : decode cX8_count 100 = .ok (.iaload, 1) := by decide +kernel
theorem dX8_count_101 : decode cX8_count 101 = .ok (.iconst (-1), 1) := by decide +kernel
theorem dX8_count_102 : decode cX8_count 102 = .ok (.ixor, 1) := by decide +kernel
theorem dX8_count_103 : decode cX8_count 103 = .ok (.iand, 1) := by decide +kernel
theorem dX8_count_104 : decode cX8_count 104 = .ok (.goto 16, 3) := by decide +kernel
theorem dX8_count_107 : decode cX8_count 107 = .ok (.aload_n 0, 1) := by decide +kernel
theorem dX8_count_108 : decode cX8_count 108 = .ok (.getfield 19, 3) := by decide +kernel
theorem dX8_count_111 : decode cX8_count 111 = .ok (.iconst 0, 1) := by decide +kernel
theorem dX8_count_112 : decode cX8_count 112 = .ok (.iload_n 3, 1) := by decide +kernel
theorem dX8_count_113 : decode cX8_count 113 = .ok (.iadd, 1) := by decide +kernel
theorem dX8_count_114 : decode cX8_count 114 = .ok (.iaload, 1) := by decide +kernel
theorem dX8_count_115 : decode cX8_count 115 = .ok (.iload 4, 2) := by decide +kernel
theorem dX8_count_117 : decode cX8_count 117 = .ok (.iconst (-1), 1) := by decide +kernel
theorem dX8_count_118 : decode cX8_count 118 = .ok (.ixor, 1) := by decide +kernel
theorem dX8_count_119 : decode cX8_count 119 = .ok (.iand, 1) := by decide +kernel
theorem dX8_count_120 : decode cX8_count 120 = .ok (.ifCond .eq 7, 3) := by decide +kernel
theorem dX8_count_123 : decode cX8_count 123 = .ok (.iconst 1, 1) := by decide +kernel
theorem dX8_count_124 : decode cX8_count 124 = .ok (.goto 4, 3) := by decide +kernel
theorem dX8_count_127 : decode cX8_count 127 = .ok (.iconst 0, 1) := by decide +kernel
theorem dX8_count_128 : decode cX8_count 128 = .ok (.iadd, 1) := by decide +kernel
theorem dX8_count_129 : decode cX8_count 129 = .ok (.istore_n 2, 1) := by decide +kernel
theorem dX8_count_130 : decode cX8_count 130 = .ok (.iinc 3 1, 3) := by decide +kernel
theorem dX8_count_133 : decode cX8_count 133 = .ok (.goto (-65), 3) := by decide +kernel
theorem dX8_count_136 : decode cX8_count 136 = .ok (.iload_n 2, 1) := by decide +kernel
theorem dX8_count_137 : decode cX8_count 137 = .ok (.ireturn, 1) := by decide +kernel
end
section
theorem dL_law_0 : decode cL_law 0 = .ok (.new 7, 3) := by decide +kernel
theorem dL_law_3 : decode cL_law 3 = .ok (.dup, 1) := by decide +kernel
theorem dL_law_4 : decode cL_law 4 = .ok (.invokespecial 9, 3) := by decide +kernel
theorem dL_law_7 : decode cL_law 7 = .ok (.astore_n 1, 1) := by decide +kernel
theorem dL_law_8 : decode cL_law 8 = .ok (.new 10, 3) := by decide +kernel
theorem dL_law_11 : decode cL_law 11 = .ok (.dup, 1) := by decide +kernel
theorem dL_law_12 : decode cL_law 12 = .ok (.invokespecial 12, 3) := by decide +kernel
theorem dL_law_15 : decode cL_law 15 = .ok (.astore_n 2, 1) := by decide +kernel
theorem dL_law_16 : decode cL_law 16 = .ok (.iconst 0, 1) := by decide +kernel
theorem dL_law_17 : decode cL_law 17 = .ok (.istore_n 3, 1) := by decide +kernel
theorem dL_law_18 : decode cL_law 18 = .ok (.iload_n 3, 1) := by decide +kernel
theorem dL_law_19 : decode cL_law 19 = .ok (.aload_n 0, 1) := by decide +kernel
theorem dL_law_20 : decode cL_law 20 = .ok (.arraylength, 1) := by decide +kernel
theorem dL_law_21 : decode cL_law 21 = .ok (.iconst 5, 1) := by decide +kernel
theorem dL_law_22 : decode cL_law 22 = .ok (.isub, 1) := by decide +kernel
theorem dL_law_23 : decode cL_law 23 = .ok (.if_icmp .gt 738, 3) := by decide +kernel
theorem dL_law_26 : decode cL_law 26 = .ok (.aload_n 0, 1) := by decide +kernel
theorem dL_law_27 : decode cL_law 27 = .ok (.iload_n 3, 1) := by decide +kernel
theorem dL_law_28 : decode cL_law 28 = .ok (.iaload, 1) := by decide +kernel
theorem dL_law_29 : decode cL_law 29 = .ok (.bipush 31, 2) := by decide +kernel
theorem dL_law_31 : decode cL_law 31 = .ok (.iand, 1) := by decide +kernel
theorem dL_law_32 : decode cL_law 32 = .ok (.tableswitch 723 0 20 #[100, 123, 136, 149, 182, 215, 248, 291, 324, 337, 380, 423, 456, 479, 522, 575, 618, 631, 654, 677, 700], 100) := by decide +kernel
theorem dL_law_132 : decode cL_law 132 = .ok (.aload_n 1, 1) := by decide +kernel
theorem dL_law_133 : decode cL_law 133 = .ok (.aload_n 0, 1) := by decide +kernel
theorem dL_law_134 : decode cL_law 134 = .ok (.iload_n 3, 1) := by decide +kernel
theorem dL_law_135 : decode cL_law 135 = .ok (.iconst 1, 1) := by decide +kernel
theorem dL_law_136 : decode cL_law 136 = .ok (.iadd, 1) := by decide +kernel
theorem dL_law_137 : decode cL_law 137 = .ok (.iaload, 1) := by decide +kernel
theorem dL_law_138 : decode cL_law 138 = .ok (.invokevirtual 13, 3) := by decide +kernel
theorem dL_law_141 : decode cL_law 141 = .ok (.aload_n 2, 1) := by decide +kernel
theorem dL_law_142 : decode cL_law 142 = .ok (.aload_n 0, 1) := by decide +kernel
theorem dL_law_143 : decode cL_law 143 = .ok (.iload_n 3, 1) := by decide +kernel
theorem dL_law_144 : decode cL_law 144 = .ok (.iconst 1, 1) := by decide +kernel
theorem dL_law_145 : decode cL_law 145 = .ok (.iadd, 1) := by decide +kernel
theorem dL_law_146 : decode cL_law 146 = .ok (.iaload, 1) := by decide +kernel
theorem dL_law_147 : decode cL_law 147 = .ok (.invokevirtual 17, 3) := by decide +kernel
theorem dL_law_150 : decode cL_law 150 = .ok (.if_icmp .eq 605, 3) := by decide +kernel
theorem dL_law_153 : decode cL_law 153 = .ok (.iconst 0, 1) := by decide +kernel
theorem dL_law_154 : decode cL_law 154 = .ok (.ireturn, 1) := by decide +kernel
theorem dL_law_155 : decode cL_law 155 = .ok (.aload_n 1, 1) := by decide +kernel
theorem dL_law_156 : decode cL_law 156 = .ok (.invokevirtual 18, 3) := by decide +kernel
theorem dL_law_159 : decode cL_law 159 = .ok (.aload_n 2, 1) := by decide +kernel
theorem dL_law_160 : decode cL_law 160 = .ok (.invokevirtual 22, 3) := by decide +kernel
theorem dL_law_163 : decode cL_law 163 = .ok (.if_icmp .eq 592, 3) := by decide +kernel
theorem dL_law_166 : decode cL_law 166 = .ok (.iconst 0, 1) := by decide +kernel
theorem dL_law_167 : decode cL_law 167 = .ok (.ireturn, 1) := by decide +kernel
theorem dL_law_168 : decode cL_law 168 = .ok (.aload_n 1, 1) := by decide +kernel
theorem dL_law_169 : decode cL_law 169 = .ok (.invokevirtual 23, 3) := by decide +kernel
theorem dL_law_172 : decode cL_law 172 = .ok (.aload_n 2, 1) := by decide +kernel
theorem dL_law_173 : decode cL_law 173 = .ok (.invokevirtual 26, 3) := by decide +kernel
theorem dL_law_176 : decode cL_law 176 = .ok (.if_icmp .eq 579, 3) := by decide +kernel
theorem dL_law_179 : decode cL_law 179 = .ok (.iconst 0, 1) := by decide +kernel
theorem dL_law_180 : decode cL_law 180 = .ok (.ireturn, 1) := by decide +kernel
theorem dL_law_181 : decode cL_law 181 = .ok (.aload_n 1, 1) := by decide +kernel
theorem dL_law_182 : decode cL_law 182 = .ok (.aload_n 0, 1) := by decide +kernel
theorem dL_law_183 : decode cL_law 183 = .ok (.iload_n 3, 1) := by decide +kernel
theorem dL_law_184 : decode cL_law 184 = .ok (.iconst 1, 1) := by decide +kernel
theorem dL_law_185 : decode cL_law 185 = .ok (.iadd, 1) := by decide +kernel
theorem dL_law_186 : decode cL_law 186 = .ok (.iaload, 1) := by decide +kernel
theorem dL_law_187 : decode cL_law 187 = .ok (.aload_n 0, 1) := by decide +kernel
theorem dL_law_188 : decode cL_law 188 = .ok (.iload_n 3, 1) := by decide +kernel
theorem dL_law_189 : decode cL_law 189 = .ok (.iconst 2, 1) := by decide +kernel
theorem dL_law_190 : decode cL_law 190 = .ok (.iadd, 1) := by decide +kernel
theorem dL_law_191 : decode cL_law 191 = .ok (.iaload, 1) := by decide +kernel
theorem dL_law_192 : decode cL_law 192 = .ok (.invokevirtual 27, 3) := by decide +kernel
theorem dL_law_195 : decode cL_law 195 = .ok (.aload_n 2, 1) := by decide +kernel
theorem dL_law_196 : decode cL_law 196 = .ok (.aload_n 0, 1) := by decide +kernel
theorem dL_law_197 : decode cL_law 197 = .ok (.iload_n 3, 1) := by decide +kernel
theorem dL_law_198 : decode cL_law 198 = .ok (.iconst 1, 1) := by decide +kernel
theorem dL_law_199 : decode cL_law 199 = .ok (.iadd, 1) := by decide +kernel
theorem dL_law_200 : decode cL_law 200 = .ok (.iaload, 1) := by decide +kernel
theorem dL_law_201 : decode cL_law 201 = .ok (.aload_n 0, 1) := by decide +kernel
theorem dL_law_202 : decode cL_law 202 = .ok (.iload_n 3, 1) := by decide +kernel
theorem dL_law_203 : decode cL_law 203 = .ok (.iconst 2, 1) := by decide +kernel
theorem dL_law_204 : decode cL_law 204 = .ok (.iadd, 1) := by decide +kernel
theorem dL_law_205 : decode cL_law 205 = .ok (.iaload, 1) := by decide +kernel
theorem dL_law_206 : decode cL_law 206 = .ok (.invokevirtual 31, 3) := by decide +kernel
theorem dL_law_209 : decode cL_law 209 = .ok (.if_icmp .eq 546, 3) := by decide +kernel
theorem dL_law_212 : decode cL_law 212 = .ok (.iconst 0, 1) := by decide +kernel
theorem dL_law_213 : decode cL_law 213 = .ok (.ireturn, 1) := by decide +kernel
theorem dL_law_214 : decode cL_law 214 = .ok (.aload_n 1, 1) := by decide +kernel
theorem dL_law_215 : decode cL_law 215 = .ok (.aload_n 0, 1) := by decide +kernel
theorem dL_law_216 : decode cL_law 216 = .ok (.iload_n 3, 1) := by decide +kernel
theorem dL_law_217 : decode cL_law 217 = .ok (.iconst 1, 1) := by decide +kernel
theorem dL_law_218 : decode cL_law 218 = .ok (.iadd, 1) := by decide +kernel
theorem dL_law_219 : decode cL_law 219 = .ok (.iaload, 1) := by decide +kernel
theorem dL_law_220 : decode cL_law 220 = .ok (.aload_n 0, 1) := by decide +kernel
theorem dL_law_221 : decode cL_law 221 = .ok (.iload_n 3, 1) := by decide +kernel
theorem dL_law_222 : decode cL_law 222 = .ok (.iconst 2, 1) := by decide +kernel
theorem dL_law_223 : decode cL_law 223 = .ok (.iadd, 1) := by decide +kernel
theorem dL_law_224 : decode cL_law 224 = .ok (.iaload, 1) := by decide +kernel
theorem dL_law_225 : decode cL_law 225 = .ok (.invokevirtual 32, 3) := by decide +kernel
theorem dL_law_228 : decode cL_law 228 = .ok (.aload_n 2, 1) := by decide +kernel
theorem dL_law_229 : decode cL_law 229 = .ok (.aload_n 0, 1) := by decide +kernel
theorem dL_law_230 : decode cL_law 230 = .ok (.iload_n 3, 1) := by decide +kernel
theorem dL_law_231 : decode cL_law 231 = .ok (.iconst 1, 1) := by decide +kernel
theorem dL_law_232 : decode cL_law 232 = .ok (.iadd, 1) := by decide +kernel
theorem dL_law_233 : decode cL_law 233 = .ok (.iaload, 1) := by decide +kernel
theorem dL_law_234 : decode cL_law 234 = .ok (.aload_n 0, 1) := by decide +kernel
theorem dL_law_235 : decode cL_law 235 = .ok (.iload_n 3, 1) := by decide +kernel
theorem dL_law_236 : decode cL_law 236 = .ok (.iconst 2, 1) := by decide +kernel
theorem dL_law_237 : decode cL_law 237 = .ok (.iadd, 1) := by decide +kernel
theorem dL_law_238 : decode cL_law 238 = .ok (.iaload, 1) := by decide +kernel
theorem dL_law_239 : decode cL_law 239 = .ok (.invokevirtual 35, 3) := by decide +kernel
theorem dL_law_242 : decode cL_law 242 = .ok (.if_icmp .eq 513, 3) := by decide +kernel
theorem dL_law_245 : decode cL_law 245 = .ok (.iconst 0, 1) := by decide +kernel
theorem dL_law_246 : decode cL_law 246 = .ok (.ireturn, 1) := by decide +kernel
theorem dL_law_247 : decode cL_law 247 = .ok (.aload_n 1, 1) := by decide +kernel
theorem dL_law_248 : decode cL_law 248 = .ok (.aload_n 0, 1) := by decide +kernel
theorem dL_law_249 : decode cL_law 249 = .ok (.iload_n 3, 1) := by decide +kernel
theorem dL_law_250 : decode cL_law 250 = .ok (.iconst 1, 1) := by decide +kernel
theorem dL_law_251 : decode cL_law 251 = .ok (.iadd, 1) := by decide +kernel
theorem dL_law_252 : decode cL_law 252 = .ok (.iaload, 1) := by decide +kernel
theorem dL_law_253 : decode cL_law 253 = .ok (.aload_n 0, 1) := by decide +kernel
theorem dL_law_254 : decode cL_law 254 = .ok (.iload_n 3, 1) := by decide +kernel
theorem dL_law_255 : decode cL_law 255 = .ok (.iconst 2, 1) := by decide +kernel
theorem dL_law_256 : decode cL_law 256 = .ok (.iadd, 1) := by decide +kernel
theorem dL_law_257 : decode cL_law 257 = .ok (.iaload, 1) := by decide +kernel
theorem dL_law_258 : decode cL_law 258 = .ok (.invokevirtual 36, 3) := by decide +kernel
theorem dL_law_261 : decode cL_law 261 = .ok (.aload_n 2, 1) := by decide +kernel
theorem dL_law_262 : decode cL_law 262 = .ok (.aload_n 0, 1) := by decide +kernel
theorem dL_law_263 : decode cL_law 263 = .ok (.iload_n 3, 1) := by decide +kernel
theorem dL_law_264 : decode cL_law 264 = .ok (.iconst 1, 1) := by decide +kernel
theorem dL_law_265 : decode cL_law 265 = .ok (.iadd, 1) := by decide +kernel
theorem dL_law_266 : decode cL_law 266 = .ok (.iaload, 1) := by decide +kernel
theorem dL_law_267 : decode cL_law 267 = .ok (.aload_n 0, 1) := by decide +kernel
theorem dL_law_268 : decode cL_law 268 = .ok (.iload_n 3, 1) := by decide +kernel
theorem dL_law_269 : decode cL_law 269 = .ok (.iconst 2, 1) := by decide +kernel
theorem dL_law_270 : decode cL_law 270 = .ok (.iadd, 1) := by decide +kernel
theorem dL_law_271 : decode cL_law 271 = .ok (.iaload, 1) := by decide +kernel
theorem dL_law_272 : decode cL_law 272 = .ok (.invokevirtual 39, 3) := by decide +kernel
theorem dL_law_275 : decode cL_law 275 = .ok (.if_icmp .eq 480, 3) := by decide +kernel
theorem dL_law_278 : decode cL_law 278 = .ok (.iconst 0, 1) := by decide +kernel
theorem dL_law_279 : decode cL_law 279 = .ok (.ireturn, 1) := by decide +kernel
theorem dL_law_280 : decode cL_law 280 = .ok (.aload_n 1, 1) := by decide +kernel
theorem dL_law_281 : decode cL_law 281 = .ok (.aload_n 0, 1) := by decide +kernel
theorem dL_law_282 : decode cL_law 282 = .ok (.iload_n 3, 1) := by decide +kernel
theorem dL_law_283 : decode cL_law 283 = .ok (.iconst 1, 1) := by decide +kernel
theorem dL_law_284 : decode cL_law 284 = .ok (.iadd, 1) := by decide +kernel
theorem dL_law_285 : decode cL_law 285 = .ok (.iaload, 1) := by decide +kernel
theorem dL_law_286 : decode cL_law 286 = .ok (.aload_n 0, 1) := by decide +kernel
theorem dL_law_287 : decode cL_law 287 = .ok (.iload_n 3, 1) := by decide +kernel
theorem dL_law_288 : decode cL_law 288 = .ok (.iconst 2, 1) := by decide +kernel
theorem dL_law_289 : decode cL_law 289 = .ok (.iadd, 1) := by decide +kernel
theorem dL_law_290 : decode cL_law 290 = .ok (.iaload, 1) := by decide +kernel
theorem dL_law_291 : decode cL_law 291 = .ok (.aload_n 0, 1) := by decide +kernel
theorem dL_law_292 : decode cL_law 292 = .ok (.iload_n 3, 1) := by decide +kernel
theorem dL_law_293 : decode cL_law 293 = .ok (.iconst 3, 1) := by decide +kernel
theorem dL_law_294 : decode cL_law 294 = .ok (.iadd, 1) := by decide +kernel
theorem dL_law_295 : decode cL_law 295 = .ok (.iaload, 1) := by decide +kernel
theorem dL_law_296 : decode cL_law 296 = .ok (.invokevirtual 40, 3) := by decide +kernel
theorem dL_law_299 : decode cL_law 299 = .ok (.aload_n 2, 1) := by decide +kernel
theorem dL_law_300 : decode cL_law 300 = .ok (.aload_n 0, 1) := by decide +kernel
theorem dL_law_301 : decode cL_law 301 = .ok (.iload_n 3, 1) := by decide +kernel
theorem dL_law_302 : decode cL_law 302 = .ok (.iconst 1, 1) := by decide +kernel
theorem dL_law_303 : decode cL_law 303 = .ok (.iadd, 1) := by decide +kernel
theorem dL_law_304 : decode cL_law 304 = .ok (.iaload, 1) := by decide +kernel
theorem dL_law_305 : decode cL_law 305 = .ok (.aload_n 0, 1) := by decide +kernel
theorem dL_law_306 : decode cL_law 306 = .ok (.iload_n 3, 1) := by decide +kernel
theorem dL_law_307 : decode cL_law 307 = .ok (.iconst 2, 1) := by decide +kernel
theorem dL_law_308 : decode cL_law 308 = .ok (.iadd, 1) := by decide +kernel
theorem dL_law_309 : decode cL_law 309 = .ok (.iaload, 1) := by decide +kernel
theorem dL_law_310 : decode cL_law 310 = .ok (.aload_n 0, 1) := by decide +kernel
theorem dL_law_311 : decode cL_law 311 = .ok (.iload_n 3, 1) := by decide +kernel
theorem dL_law_312 : decode cL_law 312 = .ok (.iconst 3, 1) := by decide +kernel
theorem dL_law_313 : decode cL_law 313 = .ok (.iadd, 1) := by decide +kernel
theorem dL_law_314 : decode cL_law 314 = .ok (.iaload, 1) := by decide +kernel
theorem dL_law_315 : decode cL_law 315 = .ok (.invokevirtual 44, 3) := by decide +kernel
theorem dL_law_318 : decode cL_law 318 = .ok (.if_icmp .eq 437, 3) := by decide +kernel
theorem dL_law_321 : decode cL_law 321 = .ok (.iconst 0, 1) := by decide +kernel
theorem dL_law_322 : decode cL_law 322 = .ok (.ireturn, 1) := by decide +kernel
theorem dL_law_323 : decode cL_law 323 = .ok (.aload_n 1, 1) := by decide +kernel
theorem dL_law_324 : decode cL_law 324 = .ok (.aload_n 0, 1) := by decide +kernel
theorem dL_law_325 : decode cL_law 325 = .ok (.iload_n 3, 1) := by decide +kernel
theorem dL_law_326 : decode cL_law 326 = .ok (.iconst 1, 1) := by decide +kernel
theorem dL_law_327 : decode cL_law 327 = .ok (.iadd, 1) := by decide +kernel
theorem dL_law_328 : decode cL_law 328 = .ok (.iaload, 1) := by decide +kernel
theorem dL_law_329 : decode cL_law 329 = .ok (.aload_n 0, 1) := by decide +kernel
theorem dL_law_330 : decode cL_law 330 = .ok (.iload_n 3, 1) := by decide +kernel
theorem dL_law_331 : decode cL_law 331 = .ok (.iconst 2, 1) := by decide +kernel
theorem dL_law_332 : decode cL_law 332 = .ok (.iadd, 1) := by decide +kernel
theorem dL_law_333 : decode cL_law 333 = .ok (.iaload, 1) := by decide +kernel
theorem dL_law_334 : decode cL_law 334 = .ok (.invokevirtual 45, 3) := by decide +kernel
theorem dL_law_337 : decode cL_law 337 = .ok (.aload_n 2, 1) := by decide +kernel
theorem dL_law_338 : decode cL_law 338 = .ok (.aload_n 0, 1) := by decide +kernel
theorem dL_law_339 : decode cL_law 339 = .ok (.iload_n 3, 1) := by decide +kernel
theorem dL_law_340 : decode cL_law 340 = .ok (.iconst 1, 1) := by decide +kernel
theorem dL_law_341 : decode cL_law 341 = .ok (.iadd, 1) := by decide +kernel
theorem dL_law_342 : decode cL_law 342 = .ok (.iaload, 1) := by decide +kernel
theorem dL_law_343 : decode cL_law 343 = .ok (.aload_n 0, 1) := by decide +kernel
theorem dL_law_344 : decode cL_law 344 = .ok (.iload_n 3, 1) := by decide +kernel
theorem dL_law_345 : decode cL_law 345 = .ok (.iconst 2, 1) := by decide +kernel
theorem dL_law_346 : decode cL_law 346 = .ok (.iadd, 1) := by decide +kernel
theorem dL_law_347 : decode cL_law 347 = .ok (.iaload, 1) := by decide +kernel
theorem dL_law_348 : decode cL_law 348 = .ok (.invokevirtual 48, 3) := by decide +kernel
theorem dL_law_351 : decode cL_law 351 = .ok (.if_icmp .eq 404, 3) := by decide +kernel
theorem dL_law_354 : decode cL_law 354 = .ok (.iconst 0, 1) := by decide +kernel
theorem dL_law_355 : decode cL_law 355 = .ok (.ireturn, 1) := by decide +kernel
theorem dL_law_356 : decode cL_law 356 = .ok (.aload_n 1, 1) := by decide +kernel
theorem dL_law_357 : decode cL_law 357 = .ok (.invokevirtual 49, 3) := by decide +kernel
theorem dL_law_360 : decode cL_law 360 = .ok (.aload_n 2, 1) := by decide +kernel
theorem dL_law_361 : decode cL_law 361 = .ok (.invokevirtual 52, 3) := by decide +kernel
theorem dL_law_364 : decode cL_law 364 = .ok (.if_icmp .eq 391, 3) := by decide +kernel
theorem dL_law_367 : decode cL_law 367 = .ok (.iconst 0, 1) := by decide +kernel
theorem dL_law_368 : decode cL_law 368 = .ok (.ireturn, 1) := by decide +kernel
theorem dL_law_369 : decode cL_law 369 = .ok (.aload_n 1, 1) := by decide +kernel
theorem dL_law_370 : decode cL_law 370 = .ok (.aload_n 0, 1) := by decide +kernel
theorem dL_law_371 : decode cL_law 371 = .ok (.iload_n 3, 1) := by decide +kernel
theorem dL_law_372 : decode cL_law 372 = .ok (.iconst 1, 1) := by decide +kernel
theorem dL_law_373 : decode cL_law 373 = .ok (.iadd, 1) := by decide +kernel
theorem dL_law_374 : decode cL_law 374 = .ok (.iaload, 1) := by decide +kernel
theorem dL_law_375 : decode cL_law 375 = .ok (.aload_n 0, 1) := by decide +kernel
theorem dL_law_376 : decode cL_law 376 = .ok (.iload_n 3, 1) := by decide +kernel
theorem dL_law_377 : decode cL_law 377 = .ok (.iconst 2, 1) := by decide +kernel
theorem dL_law_378 : decode cL_law 378 = .ok (.iadd, 1) := by decide +kernel
theorem dL_law_379 : decode cL_law 379 = .ok (.iaload, 1) := by decide +kernel
theorem dL_law_380 : decode cL_law 380 = .ok (.aload_n 0, 1) := by decide +kernel
theorem dL_law_381 : decode cL_law 381 = .ok (.iload_n 3, 1) := by decide +kernel
theorem dL_law_382 : decode cL_law 382 = .ok (.iconst 3, 1) := by decide +kernel
theorem dL_law_383 : decode cL_law 383 = .ok (.iadd, 1) := by decide +kernel
theorem dL_law_384 : decode cL_law 384 = .ok (.iaload, 1) := by decide +kernel
theorem dL_law_385 : decode cL_law 385 = .ok (.invokevirtual 53, 3) := by decide +kernel
theorem dL_law_388 : decode cL_law 388 = .ok (.aload_n 2, 1) := by decide +kernel
theorem dL_law_389 : decode cL_law 389 = .ok (.aload_n 0, 1) := by decide +kernel
theorem dL_law_390 : decode cL_law 390 = .ok (.iload_n 3, 1) := by decide +kernel
theorem dL_law_391 : decode cL_law 391 = .ok (.iconst 1, 1) := by decide +kernel
theorem dL_law_392 : decode cL_law 392 = .ok (.iadd, 1) := by decide +kernel
theorem dL_law_393 : decode cL_law 393 = .ok (.iaload, 1) := by decide +kernel
theorem dL_law_394 : decode cL_law 394 = .ok (.aload_n 0, 1) := by decide +kernel
theorem dL_law_395 : decode cL_law 395 = .ok (.iload_n 3, 1) := by decide +kernel
theorem dL_law_396 : decode cL_law 396 = .ok (.iconst 2, 1) := by decide +kernel
theorem dL_law_397 : decode cL_law 397 = .ok (.iadd, 1) := by decide +kernel
theorem dL_law_398 : decode cL_law 398 = .ok (.iaload, 1) := by decide +kernel
theorem dL_law_399 : decode cL_law 399 = .ok (.aload_n 0, 1) := by decide +kernel
theorem dL_law_400 : decode cL_law 400 = .ok (.iload_n 3, 1) := by decide +kernel
theorem dL_law_401 : decode cL_law 401 = .ok (.iconst 3, 1) := by decide +kernel
theorem dL_law_402 : decode cL_law 402 = .ok (.iadd, 1) := by decide +kernel
theorem dL_law_403 : decode cL_law 403 = .ok (.iaload, 1) := by decide +kernel
theorem dL_law_404 : decode cL_law 404 = .ok (.invokevirtual 56, 3) := by decide +kernel
theorem dL_law_407 : decode cL_law 407 = .ok (.if_icmp .eq 348, 3) := by decide +kernel
theorem dL_law_410 : decode cL_law 410 = .ok (.iconst 0, 1) := by decide +kernel
theorem dL_law_411 : decode cL_law 411 = .ok (.ireturn, 1) := by decide +kernel
theorem dL_law_412 : decode cL_law 412 = .ok (.aload_n 1, 1) := by decide +kernel
theorem dL_law_413 : decode cL_law 413 = .ok (.aload_n 0, 1) := by decide +kernel
theorem dL_law_414 : decode cL_law 414 = .ok (.iload_n 3, 1) := by decide +kernel
theorem dL_law_415 : decode cL_law 415 = .ok (.iconst 1, 1) := by decide +kernel
theorem dL_law_416 : decode cL_law 416 = .ok (.iadd, 1) := by decide +kernel
theorem dL_law_417 : decode cL_law 417 = .ok (.iaload, 1) := by decide +kernel
theorem dL_law_418 : decode cL_law 418 = .ok (.aload_n 0, 1) := by decide +kernel
theorem dL_law_419 : decode cL_law 419 = .ok (.iload_n 3, 1) := by decide +kernel
theorem dL_law_420 : decode cL_law 420 = .ok (.iconst 2, 1) := by decide +kernel
theorem dL_law_421 : decode cL_law 421 = .ok (.iadd, 1) := by decide +kernel
theorem dL_law_422 : decode cL_law 422 = .ok (.iaload, 1) := by decide +kernel
theorem dL_law_423 : decode cL_law 423 = .ok (.aload_n 0, 1) := by decide +kernel
theorem dL_law_424 : decode cL_law 424 = .ok (.iload_n 3, 1) := by decide +kernel
theorem dL_law_425 : decode cL_law 425 = .ok (.iconst 3, 1) := by decide +kernel
theorem dL_law_426 : decode cL_law 426 = .ok (.iadd, 1) := by decide +kernel
theorem dL_law_427 : decode cL_law 427 = .ok (.iaload, 1) := by decide +kernel
theorem dL_law_428 : decode cL_law 428 = .ok (.invokevirtual 57, 3) := by decide +kernel
theorem dL_law_431 : decode cL_law 431 = .ok (.aload_n 2, 1) := by decide +kernel
theorem dL_law_432 : decode cL_law 432 = .ok (.aload_n 0, 1) := by decide +kernel
theorem dL_law_433 : decode cL_law 433 = .ok (.iload_n 3, 1) := by decide +kernel
theorem dL_law_434 : decode cL_law 434 = .ok (.iconst 1, 1) := by decide +kernel
theorem dL_law_435 : decode cL_law 435 = .ok (.iadd, 1) := by decide +kernel
theorem dL_law_436 : decode cL_law 436 = .ok (.iaload, 1) := by decide +kernel
theorem dL_law_437 : decode cL_law 437 = .ok (.aload_n 0, 1) := by decide +kernel
theorem dL_law_438 : decode cL_law 438 = .ok (.iload_n 3, 1) := by decide +kernel
theorem dL_law_439 : decode cL_law 439 = .ok (.iconst 2, 1) := by decide +kernel
theorem dL_law_440 : decode cL_law 440 = .ok (.iadd, 1) := by decide +kernel
theorem dL_law_441 : decode cL_law 441 = .ok (.iaload, 1) := by decide +kernel
theorem dL_law_442 : decode cL_law 442 = .ok (.aload_n 0, 1) := by decide +kernel
theorem dL_law_443 : decode cL_law 443 = .ok (.iload_n 3, 1) := by decide +kernel
theorem dL_law_444 : decode cL_law 444 = .ok (.iconst 3, 1) := by decide +kernel
theorem dL_law_445 : decode cL_law 445 = .ok (.iadd, 1) := by decide +kernel
theorem dL_law_446 : decode cL_law 446 = .ok (.iaload, 1) := by decide +kernel
theorem dL_law_447 : decode cL_law 447 = .ok (.invokevirtual 60, 3) := by decide +kernel
theorem dL_law_450 : decode cL_law 450 = .ok (.if_icmp .eq 305, 3) := by decide +kernel
theorem dL_law_453 : decode cL_law 453 = .ok (.iconst 0, 1) := by decide +kernel
theorem dL_law_454 : decode cL_law 454 = .ok (.ireturn, 1) := by decide +kernel
theorem dL_law_455 : decode cL_law 455 = .ok (.aload_n 1, 1) := by decide +kernel
theorem dL_law_456 : decode cL_law 456 = .ok (.aload_n 0, 1) := by decide +kernel
theorem dL_law_457 : decode cL_law 457 = .ok (.iload_n 3, 1) := by decide +kernel
theorem dL_law_458 : decode cL_law 458 = .ok (.iconst 1, 1) := by decide +kernel
theorem dL_law_459 : decode cL_law 459 = .ok (.iadd, 1) := by decide +kernel
theorem dL_law_460 : decode cL_law 460 = .ok (.iaload, 1) := by decide +kernel
theorem dL_law_461 : decode cL_law 461 = .ok (.aload_n 0, 1) := by decide +kernel
theorem dL_law_462 : decode cL_law 462 = .ok (.iload_n 3, 1) := by decide +kernel
theorem dL_law_463 : decode cL_law 463 = .ok (.iconst 2, 1) := by decide +kernel
theorem dL_law_464 : decode cL_law 464 = .ok (.iadd, 1) := by decide +kernel
theorem dL_law_465 : decode cL_law 465 = .ok (.iaload, 1) := by decide +kernel
theorem dL_law_466 : decode cL_law 466 = .ok (.invokevirtual 61, 3) := by decide +kernel
theorem dL_law_469 : decode cL_law 469 = .ok (.aload_n 2, 1) := by decide +kernel
theorem dL_law_470 : decode cL_law 470 = .ok (.aload_n 0, 1) := by decide +kernel
theorem dL_law_471 : decode cL_law 471 = .ok (.iload_n 3, 1) := by decide +kernel
theorem dL_law_472 : decode cL_law 472 = .ok (.iconst 1, 1) := by decide +kernel
theorem dL_law_473 : decode cL_law 473 = .ok (.iadd, 1) := by decide +kernel
theorem dL_law_474 : decode cL_law 474 = .ok (.iaload, 1) := by decide +kernel
theorem dL_law_475 : decode cL_law 475 = .ok (.aload_n 0, 1) := by decide +kernel
theorem dL_law_476 : decode cL_law 476 = .ok (.iload_n 3, 1) := by decide +kernel
theorem dL_law_477 : decode cL_law 477 = .ok (.iconst 2, 1) := by decide +kernel
theorem dL_law_478 : decode cL_law 478 = .ok (.iadd, 1) := by decide +kernel
theorem dL_law_479 : decode cL_law 479 = .ok (.iaload, 1) := by decide +kernel
theorem dL_law_480 : decode cL_law 480 = .ok (.invokevirtual 64, 3) := by decide +kernel
theorem dL_law_483 : decode cL_law 483 = .ok (.if_icmp .eq 272, 3) := by decide +kernel
theorem dL_law_486 : decode cL_law 486 = .ok (.iconst 0, 1) := by decide +kernel
theorem dL_law_487 : decode cL_law 487 = .ok (.ireturn, 1) := by decide +kernel
theorem dL_law_488 : decode cL_law 488 = .ok (.aload_n 1, 1) := by decide +kernel
theorem dL_law_489 : decode cL_law 489 = .ok (.aload_n 0, 1) := by decide +kernel
theorem dL_law_490 : decode cL_law 490 = .ok (.iload_n 3, 1) := by decide +kernel
theorem dL_law_491 : decode cL_law 491 = .ok (.iconst 1, 1) := by decide +kernel
theorem dL_law_492 : decode cL_law 492 = .ok (.iadd, 1) := by decide +kernel
theorem dL_law_493 : decode cL_law 493 = .ok (.iaload, 1) := by decide +kernel
theorem dL_law_494 : decode cL_law 494 = .ok (.invokevirtual 65, 3) := by decide +kernel
theorem dL_law_497 : decode cL_law 497 = .ok (.aload_n 2, 1) := by decide +kernel
theorem dL_law_498 : decode cL_law 498 = .ok (.aload_n 0, 1) := by decide +kernel
theorem dL_law_499 : decode cL_law 499 = .ok (.iload_n 3, 1) := by decide +kernel
theorem dL_law_500 : decode cL_law 500 = .ok (.iconst 1, 1) := by decide +kernel
theorem dL_law_501 : decode cL_law 501 = .ok (.iadd, 1) := by decide +kernel
theorem dL_law_502 : decode cL_law 502 = .ok (.iaload, 1) := by decide +kernel
theorem dL_law_503 : decode cL_law 503 = .ok (.invokevirtual 68, 3) := by decide +kernel
theorem dL_law_506 : decode cL_law 506 = .ok (.if_icmp .eq 249, 3) := by decide +kernel
theorem dL_law_509 : decode cL_law 509 = .ok (.iconst 0, 1) := by decide +kernel
theorem dL_law_510 : decode cL_law 510 = .ok (.ireturn, 1) := by decide +kernel
theorem dL_law_511 : decode cL_law 511 = .ok (.aload_n 1, 1) := by decide +kernel
theorem dL_law_512 : decode cL_law 512 = .ok (.aload_n 0, 1) := by decide +kernel
theorem dL_law_513 : decode cL_law 513 = .ok (.iload_n 3, 1) := by decide +kernel
theorem dL_law_514 : decode cL_law 514 = .ok (.iconst 1, 1) := by decide +kernel
theorem dL_law_515 : decode cL_law 515 = .ok (.iadd, 1) := by decide +kernel
theorem dL_law_516 : decode cL_law 516 = .ok (.iaload, 1) := by decide +kernel
theorem dL_law_517 : decode cL_law 517 = .ok (.aload_n 0, 1) := by decide +kernel
theorem dL_law_518 : decode cL_law 518 = .ok (.iload_n 3, 1) := by decide +kernel
theorem dL_law_519 : decode cL_law 519 = .ok (.iconst 2, 1) := by decide +kernel
theorem dL_law_520 : decode cL_law 520 = .ok (.iadd, 1) := by decide +kernel
theorem dL_law_521 : decode cL_law 521 = .ok (.iaload, 1) := by decide +kernel
theorem dL_law_522 : decode cL_law 522 = .ok (.aload_n 0, 1) := by decide +kernel
theorem dL_law_523 : decode cL_law 523 = .ok (.iload_n 3, 1) := by decide +kernel
theorem dL_law_524 : decode cL_law 524 = .ok (.iconst 3, 1) := by decide +kernel
theorem dL_law_525 : decode cL_law 525 = .ok (.iadd, 1) := by decide +kernel
theorem dL_law_526 : decode cL_law 526 = .ok (.iaload, 1) := by decide +kernel
theorem dL_law_527 : decode cL_law 527 = .ok (.invokevirtual 69, 3) := by decide +kernel
theorem dL_law_530 : decode cL_law 530 = .ok (.aload_n 2, 1) := by decide +kernel
theorem dL_law_531 : decode cL_law 531 = .ok (.aload_n 0, 1) := by decide +kernel
theorem dL_law_532 : decode cL_law 532 = .ok (.iload_n 3, 1) := by decide +kernel
theorem dL_law_533 : decode cL_law 533 = .ok (.iconst 1, 1) := by decide +kernel
theorem dL_law_534 : decode cL_law 534 = .ok (.iadd, 1) := by decide +kernel
theorem dL_law_535 : decode cL_law 535 = .ok (.iaload, 1) := by decide +kernel
theorem dL_law_536 : decode cL_law 536 = .ok (.aload_n 0, 1) := by decide +kernel
theorem dL_law_537 : decode cL_law 537 = .ok (.iload_n 3, 1) := by decide +kernel
theorem dL_law_538 : decode cL_law 538 = .ok (.iconst 2, 1) := by decide +kernel
theorem dL_law_539 : decode cL_law 539 = .ok (.iadd, 1) := by decide +kernel
theorem dL_law_540 : decode cL_law 540 = .ok (.iaload, 1) := by decide +kernel
theorem dL_law_541 : decode cL_law 541 = .ok (.aload_n 0, 1) := by decide +kernel
theorem dL_law_542 : decode cL_law 542 = .ok (.iload_n 3, 1) := by decide +kernel
theorem dL_law_543 : decode cL_law 543 = .ok (.iconst 3, 1) := by decide +kernel
theorem dL_law_544 : decode cL_law 544 = .ok (.iadd, 1) := by decide +kernel
theorem dL_law_545 : decode cL_law 545 = .ok (.iaload, 1) := by decide +kernel
theorem dL_law_546 : decode cL_law 546 = .ok (.invokevirtual 72, 3) := by decide +kernel
theorem dL_law_549 : decode cL_law 549 = .ok (.if_icmp .eq 206, 3) := by decide +kernel
theorem dL_law_552 : decode cL_law 552 = .ok (.iconst 0, 1) := by decide +kernel
theorem dL_law_553 : decode cL_law 553 = .ok (.ireturn, 1) := by decide +kernel
theorem dL_law_554 : decode cL_law 554 = .ok (.aload_n 1, 1) := by decide +kernel
theorem dL_law_555 : decode cL_law 555 = .ok (.aload_n 0, 1) := by decide +kernel
theorem dL_law_556 : decode cL_law 556 = .ok (.iload_n 3, 1) := by decide +kernel
theorem dL_law_557 : decode cL_law 557 = .ok (.iconst 1, 1) := by decide +kernel
theorem dL_law_558 : decode cL_law 558 = .ok (.iadd, 1) := by decide +kernel
theorem dL_law_559 : decode cL_law 559 = .ok (.iaload, 1) := by decide +kernel
theorem dL_law_560 : decode cL_law 560 = .ok (.aload_n 0, 1) := by decide +kernel
theorem dL_law_561 : decode cL_law 561 = .ok (.iload_n 3, 1) := by decide +kernel
theorem dL_law_562 : decode cL_law 562 = .ok (.iconst 2, 1) := by decide +kernel
theorem dL_law_563 : decode cL_law 563 = .ok (.iadd, 1) := by decide +kernel
theorem dL_law_564 : decode cL_law 564 = .ok (.iaload, 1) := by decide +kernel
theorem dL_law_565 : decode cL_law 565 = .ok (.aload_n 0, 1) := by decide +kernel
theorem dL_law_566 : decode cL_law 566 = .ok (.iload_n 3, 1) := by decide +kernel
theorem dL_law_567 : decode cL_law 567 = .ok (.iconst 3, 1) := by decide +kernel
theorem dL_law_568 : decode cL_law 568 = .ok (.iadd, 1) := by decide +kernel
theorem dL_law_569 : decode cL_law 569 = .ok (.iaload, 1) := by decide +kernel
theorem dL_law_570 : decode cL_law 570 = .ok (.aload_n 0, 1) := by decide +kernel
theorem dL_law_571 : decode cL_law 571 = .ok (.iload_n 3, 1) := by decide +kernel
theorem dL_law_572 : decode cL_law 572 = .ok (.iconst 4, 1) := by decide +kernel
theorem dL_law_573 : decode cL_law 573 = .ok (.iadd, 1) := by decide +kernel
theorem dL_law_574 : decode cL_law 574 = .ok (.iaload, 1) := by decide +kernel
theorem dL_law_575 : decode cL_law 575 = .ok (.invokevirtual 73, 3) := by decide +kernel
theorem dL_law_578 : decode cL_law 578 = .ok (.aload_n 2, 1) := by decide +kernel
theorem dL_law_579 : decode cL_law 579 = .ok (.aload_n 0, 1) := by decide +kernel
theorem dL_law_580 : decode cL_law 580 = .ok (.iload_n 3, 1) := by decide +kernel
theorem dL_law_581 : decode cL_law 581 = .ok (.iconst 1, 1) := by decide +kernel
theorem dL_law_582 : decode cL_law 582 = .ok (.iadd, 1) := by decide +kernel
theorem dL_law_583 : decode cL_law 583 = .ok (.iaload, 1) := by decide +kernel
theorem dL_law_584 : decode cL_law 584 = .ok (.aload_n 0, 1) := by decide +kernel
theorem dL_law_585 : decode cL_law 585 = .ok (.iload_n 3, 1) := by decide +kernel
theorem dL_law_586 : decode cL_law 586 = .ok (.iconst 2, 1) := by decide +kernel
theorem dL_law_587 : decode cL_law 587 = .ok (.iadd, 1) := by decide +kernel
theorem dL_law_588 : decode cL_law 588 = .ok (.iaload, 1) := by decide +kernel
theorem dL_law_589 : decode cL_law 589 = .ok (.aload_n 0, 1) := by decide +kernel
theorem dL_law_590 : decode cL_law 590 = .ok (.iload_n 3, 1) := by decide +kernel
theorem dL_law_591 : decode cL_law 591 = .ok (.iconst 3, 1) := by decide +kernel
theorem dL_law_592 : decode cL_law 592 = .ok (.iadd, 1) := by decide +kernel
theorem dL_law_593 : decode cL_law 593 = .ok (.iaload, 1) := by decide +kernel
theorem dL_law_594 : decode cL_law 594 = .ok (.aload_n 0, 1) := by decide +kernel
theorem dL_law_595 : decode cL_law 595 = .ok (.iload_n 3, 1) := by decide +kernel
theorem dL_law_596 : decode cL_law 596 = .ok (.iconst 4, 1) := by decide +kernel
theorem dL_law_597 : decode cL_law 597 = .ok (.iadd, 1) := by decide +kernel
theorem dL_law_598 : decode cL_law 598 = .ok (.iaload, 1) := by decide +kernel
theorem dL_law_599 : decode cL_law 599 = .ok (.invokevirtual 77, 3) := by decide +kernel
theorem dL_law_602 : decode cL_law 602 = .ok (.if_icmp .eq 153, 3) := by decide +kernel
theorem dL_law_605 : decode cL_law 605 = .ok (.iconst 0, 1) := by decide +kernel
theorem dL_law_606 : decode cL_law 606 = .ok (.ireturn, 1) := by decide +kernel
theorem dL_law_607 : decode cL_law 607 = .ok (.aload_n 1, 1) := by decide +kernel
theorem dL_law_608 : decode cL_law 608 = .ok (.aload_n 0, 1) := by decide +kernel
theorem dL_law_609 : decode cL_law 609 = .ok (.iload_n 3, 1) := by decide +kernel
theorem dL_law_610 : decode cL_law 610 = .ok (.iconst 1, 1) := by decide +kernel
theorem dL_law_611 : decode cL_law 611 = .ok (.iadd, 1) := by decide +kernel
theorem dL_law_612 : decode cL_law 612 = .ok (.iaload, 1) := by decide +kernel
theorem dL_law_613 : decode cL_law 613 = .ok (.aload_n 0, 1) := by decide +kernel
theorem dL_law_614 : decode cL_law 614 = .ok (.iload_n 3, 1) := by decide +kernel
theorem dL_law_615 : decode cL_law 615 = .ok (.iconst 2, 1) := by decide +kernel
theorem dL_law_616 : decode cL_law 616 = .ok (.iadd, 1) := by decide +kernel
theorem dL_law_617 : decode cL_law 617 = .ok (.iaload, 1) := by decide +kernel
theorem dL_law_618 : decode cL_law 618 = .ok (.aload_n 0, 1) := by decide +kernel
theorem dL_law_619 : decode cL_law 619 = .ok (.iload_n 3, 1) := by decide +kernel
theorem dL_law_620 : decode cL_law 620 = .ok (.iconst 3, 1) := by decide +kernel
theorem dL_law_621 : decode cL_law 621 = .ok (.iadd, 1) := by decide +kernel
theorem dL_law_622 : decode cL_law 622 = .ok (.iaload, 1) := by decide +kernel
theorem dL_law_623 : decode cL_law 623 = .ok (.invokevirtual 78, 3) := by decide +kernel
theorem dL_law_626 : decode cL_law 626 = .ok (.aload_n 2, 1) := by decide +kernel
theorem dL_law_627 : decode cL_law 627 = .ok (.aload_n 0, 1) := by decide +kernel
theorem dL_law_628 : decode cL_law 628 = .ok (.iload_n 3, 1) := by decide +kernel
theorem dL_law_629 : decode cL_law 629 = .ok (.iconst 1, 1) := by decide +kernel
theorem dL_law_630 : decode cL_law 630 = .ok (.iadd, 1) := by decide +kernel
theorem dL_law_631 : decode cL_law 631 = .ok (.iaload, 1) := by decide +kernel
theorem dL_law_632 : decode cL_law 632 = .ok (.aload_n 0, 1) := by decide +kernel
theorem dL_law_633 : decode cL_law 633 = .ok (.iload_n 3, 1) := by decide +kernel
theorem dL_law_634 : decode cL_law 634 = .ok (.iconst 2, 1) := by decide +kernel
theorem dL_law_635 : decode cL_law 635 = .ok (.iadd, 1) := by decide +kernel
theorem dL_law_636 : decode cL_law 636 = .ok (.iaload, 1) := by decide +kernel
theorem dL_law_637 : decode cL_law 637 = .ok (.aload_n 0, 1) := by decide +kernel
theorem dL_law_638 : decode cL_law 638 = .ok (.iload_n 3, 1) := by decide +kernel
theorem dL_law_639 : decode cL_law 639 = .ok (.iconst 3, 1) := by decide +kernel
theorem dL_law_640 : decode cL_law 640 = .ok (.iadd, 1) := by decide +kernel
theorem dL_law_641 : decode cL_law 641 = .ok (.iaload, 1) := by decide +kernel
theorem dL_law_642 : decode cL_law 642 = .ok (.invokevirtual 81, 3) := by decide +kernel
theorem dL_law_645 : decode cL_law 645 = .ok (.if_icmp .eq 110, 3) := by decide +kernel
theorem dL_law_648 : decode cL_law 648 = .ok (.iconst 0, 1) := by decide +kernel
theorem dL_law_649 : decode cL_law 649 = .ok (.ireturn, 1) := by decide +kernel
theorem dL_law_650 : decode cL_law 650 = .ok (.aload_n 1, 1) := by decide +kernel
theorem dL_law_651 : decode cL_law 651 = .ok (.invokevirtual 82, 3) := by decide +kernel
theorem dL_law_654 : decode cL_law 654 = .ok (.aload_n 2, 1) := by decide +kernel
theorem dL_law_655 : decode cL_law 655 = .ok (.invokevirtual 85, 3) := by decide +kernel
theorem dL_law_658 : decode cL_law 658 = .ok (.if_icmp .eq 97, 3) := by decide +kernel
theorem dL_law_661 : decode cL_law 661 = .ok (.iconst 0, 1) := by decide +kernel
theorem dL_law_662 : decode cL_law 662 = .ok (.ireturn, 1) := by decide +kernel
theorem dL_law_663 : decode cL_law 663 = .ok (.aload_n 1, 1) := by decide +kernel
theorem dL_law_664 : decode cL_law 664 = .ok (.aload_n 0, 1) := by decide +kernel
theorem dL_law_665 : decode cL_law 665 = .ok (.iload_n 3, 1) := by decide +kernel
theorem dL_law_666 : decode cL_law 666 = .ok (.iconst 1, 1) := by decide +kernel
theorem dL_law_667 : decode cL_law 667 = .ok (.iadd, 1) := by decide +kernel
theorem dL_law_668 : decode cL_law 668 = .ok (.iaload, 1) := by decide +kernel
theorem dL_law_669 : decode cL_law 669 = .ok (.invokevirtual 86, 3) := by decide +kernel
theorem dL_law_672 : decode cL_law 672 = .ok (.aload_n 2, 1) := by decide +kernel
theorem dL_law_673 : decode cL_law 673 = .ok (.aload_n 0, 1) := by decide +kernel
theorem dL_law_674 : decode cL_law 674 = .ok (.iload_n 3, 1) := by decide +kernel
theorem dL_law_675 : decode cL_law 675 = .ok (.iconst 1, 1) := by decide +kernel
theorem dL_law_676 : decode cL_law 676 = .ok (.iadd, 1) := by decide +kernel
theorem dL_law_677 : decode cL_law 677 = .ok (.iaload, 1) := by decide +kernel
theorem dL_law_678 : decode cL_law 678 = .ok (.invokevirtual 89, 3) := by decide +kernel
theorem dL_law_681 : decode cL_law 681 = .ok (.if_icmp .eq 74, 3) := by decide +kernel
theorem dL_law_684 : decode cL_law 684 = .ok (.iconst 0, 1) := by decide +kernel
theorem dL_law_685 : decode cL_law 685 = .ok (.ireturn, 1) := by decide +kernel
theorem dL_law_686 : decode cL_law 686 = .ok (.aload_n 1, 1) := by decide +kernel
theorem dL_law_687 : decode cL_law 687 = .ok (.aload_n 0, 1) := by decide +kernel
theorem dL_law_688 : decode cL_law 688 = .ok (.iload_n 3, 1) := by decide +kernel
theorem dL_law_689 : decode cL_law 689 = .ok (.iconst 1, 1) := by decide +kernel
theorem dL_law_690 : decode cL_law 690 = .ok (.iadd, 1) := by decide +kernel
theorem dL_law_691 : decode cL_law 691 = .ok (.iaload, 1) := by decide +kernel
theorem dL_law_692 : decode cL_law 692 = .ok (.invokevirtual 90, 3) := by decide +kernel
theorem dL_law_695 : decode cL_law 695 = .ok (.aload_n 2, 1) := by decide +kernel
theorem dL_law_696 : decode cL_law 696 = .ok (.aload_n 0, 1) := by decide +kernel
theorem dL_law_697 : decode cL_law 697 = .ok (.iload_n 3, 1) := by decide +kernel
theorem dL_law_698 : decode cL_law 698 = .ok (.iconst 1, 1) := by decide +kernel
theorem dL_law_699 : decode cL_law 699 = .ok (.iadd, 1) := by decide +kernel
theorem dL_law_700 : decode cL_law 700 = .ok (.iaload, 1) := by decide +kernel
theorem dL_law_701 : decode cL_law 701 = .ok (.invokevirtual 93, 3) := by decide +kernel
theorem dL_law_704 : decode cL_law 704 = .ok (.if_icmp .eq 51, 3) := by decide +kernel
theorem dL_law_707 : decode cL_law 707 = .ok (.iconst 0, 1) := by decide +kernel
theorem dL_law_708 : decode cL_law 708 = .ok (.ireturn, 1) := by decide +kernel
theorem dL_law_709 : decode cL_law 709 = .ok (.aload_n 1, 1) := by decide +kernel
theorem dL_law_710 : decode cL_law 710 = .ok (.aload_n 0, 1) := by decide +kernel
theorem dL_law_711 : decode cL_law 711 = .ok (.iload_n 3, 1) := by decide +kernel
theorem dL_law_712 : decode cL_law 712 = .ok (.iconst 1, 1) := by decide +kernel
theorem dL_law_713 : decode cL_law 713 = .ok (.iadd, 1) := by decide +kernel
theorem dL_law_714 : decode cL_law 714 = .ok (.iaload, 1) := by decide +kernel
theorem dL_law_715 : decode cL_law 715 = .ok (.invokevirtual 94, 3) := by decide +kernel
theorem dL_law_718 : decode cL_law 718 = .ok (.aload_n 2, 1) := by decide +kernel
theorem dL_law_719 : decode cL_law 719 = .ok (.aload_n 0, 1) := by decide +kernel
theorem dL_law_720 : decode cL_law 720 = .ok (.iload_n 3, 1) := by decide +kernel
theorem dL_law_721 : decode cL_law 721 = .ok (.iconst 1, 1) := by decide +kernel
theorem dL_law_722 : decode cL_law 722 = .ok (.iadd, 1) := by decide +kernel
theorem dL_law_723 : decode cL_law 723 = .ok (.iaload, 1) := by decide +kernel
theorem dL_law_724 : decode cL_law 724 = .ok (.invokevirtual 97, 3) := by decide +kernel
theorem dL_law_727 : decode cL_law 727 = .ok (.if_icmp .eq 28, 3) := by decide +kernel
theorem dL_law_730 : decode cL_law 730 = .ok (.iconst 0, 1) := by decide +kernel
theorem dL_law_731 : decode cL_law 731 = .ok (.ireturn, 1) := by decide +kernel
theorem dL_law_732 : decode cL_law 732 = .ok (.aload_n 1, 1) := by decide +kernel
theorem dL_law_733 : decode cL_law 733 = .ok (.aload_n 0, 1) := by decide +kernel
theorem dL_law_734 : decode cL_law 734 = .ok (.iload_n 3, 1) := by decide +kernel
theorem dL_law_735 : decode cL_law 735 = .ok (.iconst 1, 1) := by decide +kernel
theorem dL_law_736 : decode cL_law 736 = .ok (.iadd, 1) := by decide +kernel
theorem dL_law_737 : decode cL_law 737 = .ok (.iaload, 1) := by decide +kernel
theorem dL_law_738 : decode cL_law 738 = .ok (.invokevirtual 98, 3) := by decide +kernel
theorem dL_law_741 : decode cL_law 741 = .ok (.aload_n 2, 1) := by decide +kernel
theorem dL_law_742 : decode cL_law 742 = .ok (.aload_n 0, 1) := by decide +kernel
theorem dL_law_743 : decode cL_law 743 = .ok (.iload_n 3, 1) := by decide +kernel
theorem dL_law_744 : decode cL_law 744 = .ok (.iconst 1, 1) := by decide +kernel
theorem dL_law_745 : decode cL_law 745 = .ok (.iadd, 1) := by decide +kernel
theorem dL_law_746 : decode cL_law 746 = .ok (.iaload, 1) := by decide +kernel
theorem dL_law_747 : decode cL_law 747 = .ok (.invokevirtual 101, 3) := by decide +kernel
theorem dL_law_750 : decode cL_law 750 = .ok (.if_icmp .eq 5, 3) := by decide +kernel
theorem dL_law_753 : decode cL_law 753 = .ok (.iconst 0, 1) := by decide +kernel
theorem dL_law_754 : decode cL_law 754 = .ok (.ireturn, 1) := by decide +kernel
theorem dL_law_755 : decode cL_law 755 = .ok (.iinc 3 5, 3) := by decide +kernel
theorem dL_law_758 : decode cL_law 758 = .ok (.goto (-740), 3) := by decide +kernel
theorem dL_law_761 : decode cL_law 761 = .ok (.iconst 1, 1) := by decide +kernel
theorem dL_law_762 : decode cL_law 762 = .ok (.ireturn, 1) := by decide +kernel
end
section
/-! ===== the world machine: a judgement over worlds alone ===== -/
def bI (b : Bool) : Int32 := if b then 1 else 0
def nA (g : Nat → Nat) : Nat → Int32 := fun j => nI (g j)
def bA (g : Nat → Bool) : Nat → Int32 := fun j => bI (g j)
def uN (g : Nat → Nat) (k v : Nat) : Nat → Nat := fun j => if j = k then v else g j
def uB (g : Nat → Bool) (k : Nat) (v : Bool) : Nat → Bool := fun j => if j = k then v else g j
theorem uN_s {g : Nat → Nat} {k v : Nat} : uN g k v k = v := if_pos rfl
theorem uN_n {g : Nat → Nat} {k v j : Nat} (h : j ≠ k) : uN g k v j = g j := if_neg h
theorem uB_s {g : Nat → Bool} {k : Nat} {v : Bool} : uB g k v k = v := if_pos rfl
theorem uB_n {g : Nat → Bool} {k j : Nat} {v : Bool} (h : j ≠ k) : uB g k v j = g j := if_neg h
theorem upd_nA (g : Nat → Nat) (k v : Nat) : upd (nA g) k (nI v) = nA (uN g k v) := by
  funext j
  unfold upd nA uN
  split <;> rfl
theorem upd_bA (g : Nat → Bool) (k : Nat) (v : Bool) : upd (bA g) k (bI v) = bA (uB g k v) := by
  funext j
  unfold upd bA uB
  split <;> rfl
theorem nar_bI (b : Bool) : vp_nar .boolean (bI b) = bI b := by cases b <;> decide +kernel
theorem nrw_bI (b : Bool) : narrow .boolean (.int (bI b)) = .int (bI b) := by cases b <;> decide +kernel
theorem fit_bI (b : Bool) : fits .boolean (.int (bI b)) = true := by cases b <;> decide +kernel
theorem bI_0 {b : Bool} : bI b = 0 ↔ b = false := by cases b <;> decide +kernel
def sw_f (j : Nat) : Int32 := if j = 0 then 43690 else if j = 1 then 52428 else if j = 2 then 61680 else 65280
/-- what the tables say beside the words: nest mates, the row of the switches -/
def EC (A : Nat → Prop) (U : State) (H : Heap) : Prop := va_Nw (.methodLinkNest RX7 9 yX2_init RX7) U ∧ va_Nw (.methodLinkNest RX2 11 yX1_init RX7) U ∧ va_Nw (.methodLinkNest RX7 18 yX1_init RX7) U ∧ va_Nw (.methodLinkNest RX7 32 yX0_init RX7) U ∧ va_Nw (.methodLinkNest RX7 39 yX3_init RX7) U ∧ va_Nw (.fieldLinkNest RX6 65 RX7 "STATES_OF_SWITCH" "[I" RX7) U ∧ va_AO "SneakPaths$Setting" U ∧ ∃ t : Nat, va_Z RX7 "STATES_OF_SWITCH" "[I" (.ref t) A U H ∧ va_T .int t 4 (fun j => .int (sw_f j)) A U H
theorem EC.warm {A : Nat → Prop} {s U : State} {H : Heap} (hW : s.WarmedH U.vm) (h : EC A s H) : EC A U H := by
  obtain ⟨h1, h2, h3, h4, h5, h6, h7, t, h8, h9⟩ := h
  exact ⟨h1.warmM hW, h2.warmM hW, h3.warmM hW, h4.warmM hW, h5.warmM hW, h6.warmF hW, h7.moved hW.alike, t, h8.moved hW.alike, h9.moved hW.alike⟩
theorem EC.same {A : Nat → Prop} {s U : State} {H : Heap} (hv : s.vm = U.vm) (h : EC A s H) : EC A U H := by
  obtain ⟨h1, h2, h3, h4, h5, h6, h7, t, h8, h9⟩ := h
  have ha : s.vm.Alike U.vm := by rw [hv]; exact Vm.Alike.refl U.vm
  exact ⟨h1.same rfl hv, h2.same rfl hv, h3.same rfl hv, h4.same rfl hv, h5.same rfl hv, h6.same rfl hv, h7.moved ha, t, h8.moved ha, h9.moved ha⟩
theorem EC.kept {A : Nat → Prop} {U : State} {H H1 : Heap} (hq : ∀ a : Nat, a < H.size → ¬ A a → H1[a]? = H[a]?) (h : EC A U H) : EC A U H1 := by
  obtain ⟨h1, h2, h3, h4, h5, h6, h7, t, h8, h9⟩ := h
  exact ⟨h1, h2, h3, h4, h5, h6, h7, t, h8.kept hq, h9.kept hq⟩
theorem EC.narrow {A B : Nat → Prop} {U : State} {H : Heap} (hAB : ∀ q, B q → A q) (h : EC A U H) : EC B U H := by
  obtain ⟨h1, h2, h3, h4, h5, h6, h7, t, h8, h9⟩ := h
  exact ⟨h1, h2, h3, h4, h5, h6, h7, t, h8.narrow hAB, h9.narrow hAB⟩
abbrev ty3 (cy : ClassId × ClassId × ClassId) : List (ClassId × FieldType) := [(cy.1, .int), (cy.2.1, .boolean), (cy.2.2, .object "SneakPaths$Setting")]
/-- where a method stands: the machine, its code, the words, the tables, what it may write -/
def Cx (p : Program) (R : Room) (s : State) (m : MethodId) (args : Array Value) (c : Code) (cc : ByteArray) (nL : Nat) (own : String) (D : va_G) (cy : ClassId × ClassId × ClassId) (A : Nat → Prop) : Prop :=
  p.tables.exec = Jvm.exec ∧ c.code = cc ∧ c.maxLocals = nL ∧ s.vm.findClass own = some m.cls ∧ (∀ x ∈ lw_T, x.before args s = true) ∧ va_K D vwCl (ty3 cy) s ∧ (∀ q, s.heap.size ≤ q → A q) ∧ EC A s s.heap
/-- from any heap that holds the world w, with these locals and this stack at pc, the method comes to Q -/
def J (p : Program) (l : Launch) (e : Env) (R : Room) (s : State) (m : MethodId) (args : Array Value) (below : List Frame) (meth : Method) (c : Code) (cells slots : Nat) (Q : State → Prop) (D : va_G) (A : Nat → Prop) (nL : Nat) (w : va_W) (pc : Nat) (lv : List (Nat × Value)) (st : List Value) : Prop :=
  ∀ (H : Heap) (locs : List Loc) (ls : Array Slot), va_P D vwCl w H → va_D A w → va_S A s.heap H locs → lv_has ls nL lv → W p l e R s m args below meth c H locs cells slots Q (F0 m pc ls st)
/-- a class's rows of the tables -/
def Ko (ci : Nat) (C : String) (T : u_T) (N : Nat) (ty : Nat → FieldType) : Prop := (∀ x ∈ u_ws C T N, x ∈ lw_T) ∧ (∀ k, k < N → parseFieldDescriptor (T k).2.2.1 = some (ty k)) ∧ (∀ a, a < N → ∀ b, b < N → a ≠ b → (T a).2.1 ≠ (T b).2.1) ∧ vwCl[ci]? = some (C, T, N)
theorem KX0 : Ko 0 RX0 TX0 5 tyX0 := ⟨inT0, tyX0_ok, nmX0, rfl⟩
theorem KX1 : Ko 1 RX1 TX1 8 tyX1 := ⟨inT1, tyX1_ok, nmX1, rfl⟩
theorem KX2 : Ko 2 RX2 TX2 6 tyX2 := ⟨inT2, tyX2_ok, nmX2, rfl⟩
theorem KX3 : Ko 3 RX3 TX3 4 tyX3 := ⟨inT3, tyX3_ok, nmX3, rfl⟩
theorem KX4 : Ko 4 RX4 TX4 4 tyX4 := ⟨inT4, tyX4_ok, nmX4, rfl⟩
theorem KX5 : Ko 5 RX5 TX5 12 tyX5 := ⟨inT5, tyX5_ok, nmX5, rfl⟩
theorem KX6 : Ko 6 RX6 TX6 7 tyX6 := ⟨inT6, tyX6_ok, nmX6, rfl⟩
theorem KX7 : Ko 7 RX7 TX7 10 tyX7 := ⟨inT7, tyX7_ok, nmX7, rfl⟩
theorem KX8 : Ko 8 RX8 TX8 24 tyX8 := ⟨inT8, tyX8_ok, nmX8, rfl⟩
section JR
variable {p : Program} {l : Launch} {e : Env} {R : Room} {s : State} {m : MethodId} {args : Array Value} {below : List Frame} {meth : Method} {c : Code} {cells slots : Nat} {Q : State → Prop} {D : va_G} {A : Nat → Prop} {nL : Nat} {cc : ByteArray} {own : String} {cyI cyZ cyO : ClassId} {w : va_W} {pc : Nat} {lv : List (Nat × Value)} {st : List Value}
theorem j_iconst (C : Cx p R s m args c cc nL own D (cyI, cyZ, cyO) A) {n : Int} {v : Int32} {pc' : Nat} (hdg : decode cc pc = .ok (.iconst n, 1)) (hp : pc + 1 = pc') (hv : Int32.ofInt n = v) (k : J p l e R s m args below meth c cells slots Q D A nL w pc' (lv) (.int v :: st)) : J p l e R s m args below meth c cells slots Q D A nL w pc (lv) (st) := by
  subst hp; exact fun H locs ls hP hD hS hl => lv_iconst C.1 C.2.1 hdg hv (k H locs ls hP hD hS hl)
theorem j_bipush (C : Cx p R s m args c cc nL own D (cyI, cyZ, cyO) A) {n : Int} {v : Int32} {pc' : Nat} (hdg : decode cc pc = .ok (.bipush n, 2)) (hp : pc + 2 = pc') (hv : (Int8.ofInt n).toInt32 = v) (k : J p l e R s m args below meth c cells slots Q D A nL w pc' (lv) (.int v :: st)) : J p l e R s m args below meth c cells slots Q D A nL w pc (lv) (st) := by
  subst hp; exact fun H locs ls hP hD hS hl => lv_bipush C.1 C.2.1 hdg hv (k H locs ls hP hD hS hl)
theorem j_sipush (C : Cx p R s m args c cc nL own D (cyI, cyZ, cyO) A) {n : Int} {v : Int32} {pc' : Nat} (hdg : decode cc pc = .ok (.sipush n, 3)) (hp : pc + 3 = pc') (hv : (Int16.ofInt n).toInt32 = v) (k : J p l e R s m args below meth c cells slots Q D A nL w pc' (lv) (.int v :: st)) : J p l e R s m args below meth c cells slots Q D A nL w pc (lv) (st) := by
  subst hp; exact fun H locs ls hP hD hS hl => lv_sipush C.1 C.2.1 hdg hv (k H locs ls hP hD hS hl)
theorem j_lconst (C : Cx p R s m args c cc nL own D (cyI, cyZ, cyO) A) {n : Fin 2} {v : Int64} {pc' : Nat} (hdg : decode cc pc = .ok (.lconst n, 1)) (hp : pc + 1 = pc') (hv : Int64.ofNat (n : Nat) = v) (k : J p l e R s m args below meth c cells slots Q D A nL w pc' (lv) (.long v :: st)) : J p l e R s m args below meth c cells slots Q D A nL w pc (lv) (st) := by
  subst hp; exact fun H locs ls hP hD hS hl => lv_lconst C.1 C.2.1 hdg hv (k H locs ls hP hD hS hl)
theorem j_ldc (C : Cx p R s m args c cc nL own D (cyI, cyZ, cyO) A) {index : Nat} {v : Int32} {pc' : Nat} (hdg : decode cc pc = .ok (.ldc index, 2)) (hp : pc + 2 = pc') (hm : Cond.constant own index v ∈ lw_T) (k : J p l e R s m args below meth c cells slots Q D A nL w pc' (lv) (.int v :: st)) : J p l e R s m args below meth c cells slots Q D A nL w pc (lv) (st) := by
  subst hp; exact fun H locs ls hP hD hS hl => lv_ldc C.1 C.2.1 C.2.2.2.1 (C.2.2.2.2.1 _ hm) hdg (k H locs ls hP hD hS hl)
theorem j_ldcw (C : Cx p R s m args c cc nL own D (cyI, cyZ, cyO) A) {index : Nat} {v : Int32} {pc' : Nat} (hdg : decode cc pc = .ok (.ldc_w index, 3)) (hp : pc + 3 = pc') (hm : Cond.constant own index v ∈ lw_T) (k : J p l e R s m args below meth c cells slots Q D A nL w pc' (lv) (.int v :: st)) : J p l e R s m args below meth c cells slots Q D A nL w pc (lv) (st) := by
  subst hp; exact fun H locs ls hP hD hS hl => lv_ldcw C.1 C.2.1 C.2.2.2.1 (C.2.2.2.2.1 _ hm) hdg (k H locs ls hP hD hS hl)
theorem j_ldc2 (C : Cx p R s m args c cc nL own D (cyI, cyZ, cyO) A) {index : Nat} {v : Int64} {pc' : Nat} (hdg : decode cc pc = .ok (.ldc2_w index, 3)) (hp : pc + 3 = pc') (hm : Cond.constantLong own index v ∈ lw_T) (k : J p l e R s m args below meth c cells slots Q D A nL w pc' (lv) (.long v :: st)) : J p l e R s m args below meth c cells slots Q D A nL w pc (lv) (st) := by
  subst hp; exact fun H locs ls hP hD hS hl => lv_ldc2 C.1 C.2.1 C.2.2.2.1 (C.2.2.2.2.1 _ hm) hdg (k H locs ls hP hD hS hl)
theorem j_iload_n (C : Cx p R s m args c cc nL own D (cyI, cyZ, cyO) A) {i : Fin 4} {x : Int32} {pc' : Nat} (hdg : decode cc pc = .ok (.iload_n i, 1)) (hp : pc + 1 = pc') (q : Nat) (hq : lv[q]? = some ((i : Nat), .int x)) (k : J p l e R s m args below meth c cells slots Q D A nL w pc' (lv) (.int x :: st)) : J p l e R s m args below meth c cells slots Q D A nL w pc (lv) (st) := by
  subst hp; exact fun H locs ls hP hD hS hl => lv_iload_n C.1 C.2.1 hdg rfl (lv_at hl q hq) (k H locs ls hP hD hS hl)
theorem j_iload (C : Cx p R s m args c cc nL own D (cyI, cyZ, cyO) A) {i : Nat} {x : Int32} {pc' : Nat} (hdg : decode cc pc = .ok (.iload i, 2)) (hp : pc + 2 = pc') (q : Nat) (hq : lv[q]? = some (i, .int x)) (k : J p l e R s m args below meth c cells slots Q D A nL w pc' (lv) (.int x :: st)) : J p l e R s m args below meth c cells slots Q D A nL w pc (lv) (st) := by
  subst hp; exact fun H locs ls hP hD hS hl => lv_iload C.1 C.2.1 hdg (lv_at hl q hq) (k H locs ls hP hD hS hl)
theorem j_lload_n (C : Cx p R s m args c cc nL own D (cyI, cyZ, cyO) A) {i : Fin 4} {x : Int64} {pc' : Nat} (hdg : decode cc pc = .ok (.lload_n i, 1)) (hp : pc + 1 = pc') (q : Nat) (hq : lv[q]? = some ((i : Nat), .long x)) (k : J p l e R s m args below meth c cells slots Q D A nL w pc' (lv) (.long x :: st)) : J p l e R s m args below meth c cells slots Q D A nL w pc (lv) (st) := by
  subst hp; exact fun H locs ls hP hD hS hl => lv_lload_n C.1 C.2.1 hdg rfl (lv_at hl q hq) (k H locs ls hP hD hS hl)
theorem j_lload (C : Cx p R s m args c cc nL own D (cyI, cyZ, cyO) A) {i : Nat} {x : Int64} {pc' : Nat} (hdg : decode cc pc = .ok (.lload i, 2)) (hp : pc + 2 = pc') (q : Nat) (hq : lv[q]? = some (i, .long x)) (k : J p l e R s m args below meth c cells slots Q D A nL w pc' (lv) (.long x :: st)) : J p l e R s m args below meth c cells slots Q D A nL w pc (lv) (st) := by
  subst hp; exact fun H locs ls hP hD hS hl => lv_lload C.1 C.2.1 hdg (lv_at hl q hq) (k H locs ls hP hD hS hl)
theorem j_aload_n (C : Cx p R s m args c cc nL own D (cyI, cyZ, cyO) A) {i : Fin 4} {x : Nat} {pc' : Nat} (hdg : decode cc pc = .ok (.aload_n i, 1)) (hp : pc + 1 = pc') (q : Nat) (hq : lv[q]? = some ((i : Nat), .ref x)) (k : J p l e R s m args below meth c cells slots Q D A nL w pc' (lv) (.ref x :: st)) : J p l e R s m args below meth c cells slots Q D A nL w pc (lv) (st) := by
  subst hp; exact fun H locs ls hP hD hS hl => lv_aload_n C.1 C.2.1 hdg rfl (lv_at hl q hq) (k H locs ls hP hD hS hl)
theorem j_aload (C : Cx p R s m args c cc nL own D (cyI, cyZ, cyO) A) {i : Nat} {x : Nat} {pc' : Nat} (hdg : decode cc pc = .ok (.aload i, 2)) (hp : pc + 2 = pc') (q : Nat) (hq : lv[q]? = some (i, .ref x)) (k : J p l e R s m args below meth c cells slots Q D A nL w pc' (lv) (.ref x :: st)) : J p l e R s m args below meth c cells slots Q D A nL w pc (lv) (st) := by
  subst hp; exact fun H locs ls hP hD hS hl => lv_aload C.1 C.2.1 hdg (lv_at hl q hq) (k H locs ls hP hD hS hl)
theorem j_istore_n (C : Cx p R s m args c cc nL own D (cyI, cyZ, cyO) A) {i : Fin 4} {x : Int32} {pc' : Nat} (lv' : List (Nat × Value)) (hdg : decode cc pc = .ok (.istore_n i, 1)) (hp : pc + 1 = pc') (hn : (i : Nat) < nL) (hv : ((i : Nat), Value.int x) :: lv.filter (fun q => !(q.1 == (i : Nat)) && !(q.1 + 1 == (i : Nat) && q.2.category == 2)) = lv') (k : J p l e R s m args below meth c cells slots Q D A nL w pc' (lv') (st)) : J p l e R s m args below meth c cells slots Q D A nL w pc (lv) (.int x :: st) := by
  subst hp; exact fun H locs ls hP hD hS hl => lv_istore_n C.1 C.2.1 hdg rfl hl hn hv (fun ls' hl' => k H locs ls' hP hD hS hl')
theorem j_istore (C : Cx p R s m args c cc nL own D (cyI, cyZ, cyO) A) {i : Nat} {x : Int32} {pc' : Nat} (lv' : List (Nat × Value)) (hdg : decode cc pc = .ok (.istore i, 2)) (hp : pc + 2 = pc') (hn : i < nL) (hv : (i, Value.int x) :: lv.filter (fun q => !(q.1 == i) && !(q.1 + 1 == i && q.2.category == 2)) = lv') (k : J p l e R s m args below meth c cells slots Q D A nL w pc' (lv') (st)) : J p l e R s m args below meth c cells slots Q D A nL w pc (lv) (.int x :: st) := by
  subst hp; exact fun H locs ls hP hD hS hl => lv_istore C.1 C.2.1 hdg hl hn hv (fun ls' hl' => k H locs ls' hP hD hS hl')
theorem j_lstore_n (C : Cx p R s m args c cc nL own D (cyI, cyZ, cyO) A) {i : Fin 4} {x : Int64} {pc' : Nat} (lv' : List (Nat × Value)) (hdg : decode cc pc = .ok (.lstore_n i, 1)) (hp : pc + 1 = pc') (hn : (i : Nat) + 1 < nL) (hv : ((i : Nat), Value.long x) :: lv.filter (fun q => !(q.1 == (i : Nat)) && (!(q.1 == (i : Nat) + 1) && !(q.1 + 1 == (i : Nat) && q.2.category == 2))) = lv') (k : J p l e R s m args below meth c cells slots Q D A nL w pc' (lv') (st)) : J p l e R s m args below meth c cells slots Q D A nL w pc (lv) (.long x :: st) := by
  subst hp; exact fun H locs ls hP hD hS hl => lv_lstore_n C.1 C.2.1 hdg rfl hl hn hv (fun ls' hl' => k H locs ls' hP hD hS hl')
theorem j_lstore (C : Cx p R s m args c cc nL own D (cyI, cyZ, cyO) A) {i : Nat} {x : Int64} {pc' : Nat} (lv' : List (Nat × Value)) (hdg : decode cc pc = .ok (.lstore i, 2)) (hp : pc + 2 = pc') (hn : i + 1 < nL) (hv : (i, Value.long x) :: lv.filter (fun q => !(q.1 == i) && (!(q.1 == i + 1) && !(q.1 + 1 == i && q.2.category == 2))) = lv') (k : J p l e R s m args below meth c cells slots Q D A nL w pc' (lv') (st)) : J p l e R s m args below meth c cells slots Q D A nL w pc (lv) (.long x :: st) := by
  subst hp; exact fun H locs ls hP hD hS hl => lv_lstore C.1 C.2.1 hdg hl hn hv (fun ls' hl' => k H locs ls' hP hD hS hl')
theorem j_astore_n (C : Cx p R s m args c cc nL own D (cyI, cyZ, cyO) A) {i : Fin 4} {x : Nat} {pc' : Nat} (lv' : List (Nat × Value)) (hdg : decode cc pc = .ok (.astore_n i, 1)) (hp : pc + 1 = pc') (hn : (i : Nat) < nL) (hv : ((i : Nat), Value.ref x) :: lv.filter (fun q => !(q.1 == (i : Nat)) && !(q.1 + 1 == (i : Nat) && q.2.category == 2)) = lv') (k : J p l e R s m args below meth c cells slots Q D A nL w pc' (lv') (st)) : J p l e R s m args below meth c cells slots Q D A nL w pc (lv) (.ref x :: st) := by
  subst hp; exact fun H locs ls hP hD hS hl => lv_astore_n C.1 C.2.1 hdg rfl hl hn hv (fun ls' hl' => k H locs ls' hP hD hS hl')
theorem j_astore (C : Cx p R s m args c cc nL own D (cyI, cyZ, cyO) A) {i : Nat} {x : Nat} {pc' : Nat} (lv' : List (Nat × Value)) (hdg : decode cc pc = .ok (.astore i, 2)) (hp : pc + 2 = pc') (hn : i < nL) (hv : (i, Value.ref x) :: lv.filter (fun q => !(q.1 == i) && !(q.1 + 1 == i && q.2.category == 2)) = lv') (k : J p l e R s m args below meth c cells slots Q D A nL w pc' (lv') (st)) : J p l e R s m args below meth c cells slots Q D A nL w pc (lv) (.ref x :: st) := by
  subst hp; exact fun H locs ls hP hD hS hl => lv_astore C.1 C.2.1 hdg hl hn hv (fun ls' hl' => k H locs ls' hP hD hS hl')
theorem j_iinc (C : Cx p R s m args c cc nL own D (cyI, cyZ, cyO) A) {i : Nat} {n : Int} {x v : Int32} {pc' : Nat} (lv' : List (Nat × Value)) (hdg : decode cc pc = .ok (.iinc i n, 3)) (hp : pc + 3 = pc') (q : Nat) (hq : lv[q]? = some (i, .int x)) (hx : x + Int32.ofInt n = v) (hn : i < nL) (hv : (i, Value.int v) :: lv.filter (fun q => !(q.1 == i) && !(q.1 + 1 == i && q.2.category == 2)) = lv') (k : J p l e R s m args below meth c cells slots Q D A nL w pc' (lv') (st)) : J p l e R s m args below meth c cells slots Q D A nL w pc (lv) (st) := by
  subst hp; exact fun H locs ls hP hD hS hl => lv_iinc (k := q) C.1 C.2.1 hdg hl hq hx hn hv (fun ls' hl' => k H locs ls' hP hD hS hl')
theorem j_iadd (C : Cx p R s m args c cc nL own D (cyI, cyZ, cyO) A) {x y v : Int32} {pc' : Nat} (hdg : decode cc pc = .ok (.iadd, 1)) (hp : pc + 1 = pc') (hv : x + y = v) (k : J p l e R s m args below meth c cells slots Q D A nL w pc' (lv) (.int v :: st)) : J p l e R s m args below meth c cells slots Q D A nL w pc (lv) (.int y :: .int x :: st) := by
  subst hp; subst hv; exact fun H locs ls hP hD hS hl => lv_iadd C.1 C.2.1 hdg (k H locs ls hP hD hS hl)
theorem j_isub (C : Cx p R s m args c cc nL own D (cyI, cyZ, cyO) A) {x y v : Int32} {pc' : Nat} (hdg : decode cc pc = .ok (.isub, 1)) (hp : pc + 1 = pc') (hv : x - y = v) (k : J p l e R s m args below meth c cells slots Q D A nL w pc' (lv) (.int v :: st)) : J p l e R s m args below meth c cells slots Q D A nL w pc (lv) (.int y :: .int x :: st) := by
  subst hp; subst hv; exact fun H locs ls hP hD hS hl => lv_isub C.1 C.2.1 hdg (k H locs ls hP hD hS hl)
theorem j_imul (C : Cx p R s m args c cc nL own D (cyI, cyZ, cyO) A) {x y v : Int32} {pc' : Nat} (hdg : decode cc pc = .ok (.imul, 1)) (hp : pc + 1 = pc') (hv : x * y = v) (k : J p l e R s m args below meth c cells slots Q D A nL w pc' (lv) (.int v :: st)) : J p l e R s m args below meth c cells slots Q D A nL w pc (lv) (.int y :: .int x :: st) := by
  subst hp; subst hv; exact fun H locs ls hP hD hS hl => lv_imul C.1 C.2.1 hdg (k H locs ls hP hD hS hl)
theorem j_iand (C : Cx p R s m args c cc nL own D (cyI, cyZ, cyO) A) {x y v : Int32} {pc' : Nat} (hdg : decode cc pc = .ok (.iand, 1)) (hp : pc + 1 = pc') (hv : x &&& y = v) (k : J p l e R s m args below meth c cells slots Q D A nL w pc' (lv) (.int v :: st)) : J p l e R s m args below meth c cells slots Q D A nL w pc (lv) (.int y :: .int x :: st) := by
  subst hp; subst hv; exact fun H locs ls hP hD hS hl => lv_iand C.1 C.2.1 hdg (k H locs ls hP hD hS hl)
theorem j_ior (C : Cx p R s m args c cc nL own D (cyI, cyZ, cyO) A) {x y v : Int32} {pc' : Nat} (hdg : decode cc pc = .ok (.ior, 1)) (hp : pc + 1 = pc') (hv : x ||| y = v) (k : J p l e R s m args below meth c cells slots Q D A nL w pc' (lv) (.int v :: st)) : J p l e R s m args below meth c cells slots Q D A nL w pc (lv) (.int y :: .int x :: st) := by
  subst hp; subst hv; exact fun H locs ls hP hD hS hl => lv_ior C.1 C.2.1 hdg (k H locs ls hP hD hS hl)
theorem j_ixor (C : Cx p R s m args c cc nL own D (cyI, cyZ, cyO) A) {x y v : Int32} {pc' : Nat} (hdg : decode cc pc = .ok (.ixor, 1)) (hp : pc + 1 = pc') (hv : x ^^^ y = v) (k : J p l e R s m args below meth c cells slots Q D A nL w pc' (lv) (.int v :: st)) : J p l e R s m args below meth c cells slots Q D A nL w pc (lv) (.int y :: .int x :: st) := by
  subst hp; subst hv; exact fun H locs ls hP hD hS hl => lv_ixor C.1 C.2.1 hdg (k H locs ls hP hD hS hl)
theorem j_ladd (C : Cx p R s m args c cc nL own D (cyI, cyZ, cyO) A) {x y v : Int64} {pc' : Nat} (hdg : decode cc pc = .ok (.ladd, 1)) (hp : pc + 1 = pc') (hv : x + y = v) (k : J p l e R s m args below meth c cells slots Q D A nL w pc' (lv) (.long v :: st)) : J p l e R s m args below meth c cells slots Q D A nL w pc (lv) (.long y :: .long x :: st) := by
  subst hp; subst hv; exact fun H locs ls hP hD hS hl => lv_ladd C.1 C.2.1 hdg (k H locs ls hP hD hS hl)
theorem j_lmul (C : Cx p R s m args c cc nL own D (cyI, cyZ, cyO) A) {x y v : Int64} {pc' : Nat} (hdg : decode cc pc = .ok (.lmul, 1)) (hp : pc + 1 = pc') (hv : x * y = v) (k : J p l e R s m args below meth c cells slots Q D A nL w pc' (lv) (.long v :: st)) : J p l e R s m args below meth c cells slots Q D A nL w pc (lv) (.long y :: .long x :: st) := by
  subst hp; subst hv; exact fun H locs ls hP hD hS hl => lv_lmul C.1 C.2.1 hdg (k H locs ls hP hD hS hl)
theorem j_idiv (C : Cx p R s m args c cc nL own D (cyI, cyZ, cyO) A) {x y v : Int32} {pc' : Nat} (hdg : decode cc pc = .ok (.idiv, 1)) (hp : pc + 1 = pc') (hne : ¬ y = 0) (hv : x / y = v) (k : J p l e R s m args below meth c cells slots Q D A nL w pc' (lv) (.int v :: st)) : J p l e R s m args below meth c cells slots Q D A nL w pc (lv) (.int y :: .int x :: st) := by
  subst hp; subst hv; exact fun H locs ls hP hD hS hl => lv_idiv C.1 C.2.1 hdg hne (k H locs ls hP hD hS hl)
theorem j_irem (C : Cx p R s m args c cc nL own D (cyI, cyZ, cyO) A) {x y v : Int32} {pc' : Nat} (hdg : decode cc pc = .ok (.irem, 1)) (hp : pc + 1 = pc') (hne : ¬ y = 0) (hv : x - x / y * y = v) (k : J p l e R s m args below meth c cells slots Q D A nL w pc' (lv) (.int v :: st)) : J p l e R s m args below meth c cells slots Q D A nL w pc (lv) (.int y :: .int x :: st) := by
  subst hp; subst hv; exact fun H locs ls hP hD hS hl => lv_irem C.1 C.2.1 hdg hne (k H locs ls hP hD hS hl)
theorem j_ldiv (C : Cx p R s m args c cc nL own D (cyI, cyZ, cyO) A) {x y v : Int64} {pc' : Nat} (hdg : decode cc pc = .ok (.ldiv, 1)) (hp : pc + 1 = pc') (hne : ¬ y = 0) (hv : x / y = v) (k : J p l e R s m args below meth c cells slots Q D A nL w pc' (lv) (.long v :: st)) : J p l e R s m args below meth c cells slots Q D A nL w pc (lv) (.long y :: .long x :: st) := by
  subst hp; subst hv; exact fun H locs ls hP hD hS hl => lv_ldiv C.1 C.2.1 hdg hne (k H locs ls hP hD hS hl)
theorem j_lrem (C : Cx p R s m args c cc nL own D (cyI, cyZ, cyO) A) {x y v : Int64} {pc' : Nat} (hdg : decode cc pc = .ok (.lrem, 1)) (hp : pc + 1 = pc') (hne : ¬ y = 0) (hv : x - x / y * y = v) (k : J p l e R s m args below meth c cells slots Q D A nL w pc' (lv) (.long v :: st)) : J p l e R s m args below meth c cells slots Q D A nL w pc (lv) (.long y :: .long x :: st) := by
  subst hp; subst hv; exact fun H locs ls hP hD hS hl => lv_lrem C.1 C.2.1 hdg hne (k H locs ls hP hD hS hl)
theorem j_ishl (C : Cx p R s m args c cc nL own D (cyI, cyZ, cyO) A) {x y v : Int32} {pc' : Nat} (hdg : decode cc pc = .ok (.ishl, 1)) (hp : pc + 1 = pc') (hv : x <<< (y &&& 31) = v) (k : J p l e R s m args below meth c cells slots Q D A nL w pc' (lv) (.int v :: st)) : J p l e R s m args below meth c cells slots Q D A nL w pc (lv) (.int y :: .int x :: st) := by
  subst hp; subst hv; exact fun H locs ls hP hD hS hl => lv_ishl C.1 C.2.1 hdg (k H locs ls hP hD hS hl)
theorem j_ishr (C : Cx p R s m args c cc nL own D (cyI, cyZ, cyO) A) {x y v : Int32} {pc' : Nat} (hdg : decode cc pc = .ok (.ishr, 1)) (hp : pc + 1 = pc') (hv : x >>> (y &&& 31) = v) (k : J p l e R s m args below meth c cells slots Q D A nL w pc' (lv) (.int v :: st)) : J p l e R s m args below meth c cells slots Q D A nL w pc (lv) (.int y :: .int x :: st) := by
  subst hp; subst hv; exact fun H locs ls hP hD hS hl => lv_ishr C.1 C.2.1 hdg (k H locs ls hP hD hS hl)
theorem j_iushr (C : Cx p R s m args c cc nL own D (cyI, cyZ, cyO) A) {x y v : Int32} {pc' : Nat} (hdg : decode cc pc = .ok (.iushr, 1)) (hp : pc + 1 = pc') (hv : (x.toUInt32 >>> (y.toUInt32 &&& Int32.toUInt32 31)).toInt32 = v) (k : J p l e R s m args below meth c cells slots Q D A nL w pc' (lv) (.int v :: st)) : J p l e R s m args below meth c cells slots Q D A nL w pc (lv) (.int y :: .int x :: st) := by
  subst hp; exact fun H locs ls hP hD hS hl => lv_iushr C.1 C.2.1 hdg hv (k H locs ls hP hD hS hl)
theorem j_i2l (C : Cx p R s m args c cc nL own D (cyI, cyZ, cyO) A) {x : Int32} {v : Int64} {pc' : Nat} (hdg : decode cc pc = .ok (.i2l, 1)) (hp : pc + 1 = pc') (hv : x.toInt64 = v) (k : J p l e R s m args below meth c cells slots Q D A nL w pc' (lv) (.long v :: st)) : J p l e R s m args below meth c cells slots Q D A nL w pc (lv) (.int x :: st) := by
  subst hp; exact fun H locs ls hP hD hS hl => lv_i2l C.1 C.2.1 hdg hv (k H locs ls hP hD hS hl)
theorem j_l2i (C : Cx p R s m args c cc nL own D (cyI, cyZ, cyO) A) {x : Int64} {v : Int32} {pc' : Nat} (hdg : decode cc pc = .ok (.l2i, 1)) (hp : pc + 1 = pc') (hv : x.toInt32 = v) (k : J p l e R s m args below meth c cells slots Q D A nL w pc' (lv) (.int v :: st)) : J p l e R s m args below meth c cells slots Q D A nL w pc (lv) (.long x :: st) := by
  subst hp; exact fun H locs ls hP hD hS hl => lv_l2i C.1 C.2.1 hdg hv (k H locs ls hP hD hS hl)
theorem j_lcmp (C : Cx p R s m args c cc nL own D (cyI, cyZ, cyO) A) {x y : Int64} {v : Int32} {pc' : Nat} (hdg : decode cc pc = .ok (.lcmp, 1)) (hp : pc + 1 = pc') (hv : lg_cmp x y = v) (k : J p l e R s m args below meth c cells slots Q D A nL w pc' (lv) (.int v :: st)) : J p l e R s m args below meth c cells slots Q D A nL w pc (lv) (.long y :: .long x :: st) := by
  subst hp; subst hv; exact fun H locs ls hP hD hS hl => W.lcmp C.1 C.2.1 hdg (k H locs ls hP hD hS hl)
theorem j_dup (C : Cx p R s m args c cc nL own D (cyI, cyZ, cyO) A) {v : Value} {pc' : Nat} (hdg : decode cc pc = .ok (.dup, 1)) (hp : pc + 1 = pc') (hc : v.category = 1) (k : J p l e R s m args below meth c cells slots Q D A nL w pc' (lv) (v :: v :: st)) : J p l e R s m args below meth c cells slots Q D A nL w pc (lv) (v :: st) := by
  subst hp; exact fun H locs ls hP hD hS hl => lv_dup C.1 C.2.1 hdg hc (k H locs ls hP hD hS hl)
theorem j_dup2 (C : Cx p R s m args c cc nL own D (cyI, cyZ, cyO) A) {v u : Value} {pc' : Nat} (hdg : decode cc pc = .ok (.dup2, 1)) (hp : pc + 1 = pc') (hc : v.category = 1) (hc2 : u.category = 1) (k : J p l e R s m args below meth c cells slots Q D A nL w pc' (lv) (v :: u :: v :: u :: st)) : J p l e R s m args below meth c cells slots Q D A nL w pc (lv) (v :: u :: st) := by
  subst hp; exact fun H locs ls hP hD hS hl => lv_dup2_11 C.1 C.2.1 hdg hc hc2 (k H locs ls hP hD hS hl)
theorem j_pop (C : Cx p R s m args c cc nL own D (cyI, cyZ, cyO) A) {v : Value} {pc' : Nat} (hdg : decode cc pc = .ok (.pop, 1)) (hp : pc + 1 = pc') (hc : v.category = 1) (k : J p l e R s m args below meth c cells slots Q D A nL w pc' (lv) (st)) : J p l e R s m args below meth c cells slots Q D A nL w pc (lv) (v :: st) := by
  subst hp; exact fun H locs ls hP hD hS hl => lv_pop C.1 C.2.1 hdg hc (k H locs ls hP hD hS hl)
theorem j_if_eq (C : Cx p R s m args c cc nL own D (cyI, cyZ, cyO) A) {x : Int32} {off : Int} (tgt : Nat) {pc' : Nat} (hdg : decode cc pc = .ok (.ifCond .eq off, 3)) (ht : (pc : Int) + off = (tgt : Int)) (hp : pc + 3 = pc') (kt : x = 0 → J p l e R s m args below meth c cells slots Q D A nL w tgt (lv) (st)) (kf : ¬ (x = 0) → J p l e R s m args below meth c cells slots Q D A nL w pc' (lv) (st)) : J p l e R s m args below meth c cells slots Q D A nL w pc (lv) (.int x :: st) := by
  subst hp; exact fun H locs ls hP hD hS hl => lv_if_eq C.1 C.2.1 hdg ht (fun h => kt (by first | exact h | simpa using h) H locs ls hP hD hS hl) (fun h => kf (by first | exact h | simpa using h) H locs ls hP hD hS hl)
theorem j_ic_eq (C : Cx p R s m args c cc nL own D (cyI, cyZ, cyO) A) {x y : Int32} {off : Int} (tgt : Nat) {pc' : Nat} (hdg : decode cc pc = .ok (.if_icmp .eq off, 3)) (ht : (pc : Int) + off = (tgt : Int)) (hp : pc + 3 = pc') (kt : x = y → J p l e R s m args below meth c cells slots Q D A nL w tgt (lv) (st)) (kf : ¬ (x = y) → J p l e R s m args below meth c cells slots Q D A nL w pc' (lv) (st)) : J p l e R s m args below meth c cells slots Q D A nL w pc (lv) (.int y :: .int x :: st) := by
  subst hp; exact fun H locs ls hP hD hS hl => lv_icmp_eq C.1 C.2.1 hdg ht (fun h => kt (by first | exact h | simpa using h) H locs ls hP hD hS hl) (fun h => kf (by first | exact h | simpa using h) H locs ls hP hD hS hl)
theorem j_if_ne (C : Cx p R s m args c cc nL own D (cyI, cyZ, cyO) A) {x : Int32} {off : Int} (tgt : Nat) {pc' : Nat} (hdg : decode cc pc = .ok (.ifCond .ne off, 3)) (ht : (pc : Int) + off = (tgt : Int)) (hp : pc + 3 = pc') (kt : ¬ x = 0 → J p l e R s m args below meth c cells slots Q D A nL w tgt (lv) (st)) (kf : ¬ (¬ x = 0) → J p l e R s m args below meth c cells slots Q D A nL w pc' (lv) (st)) : J p l e R s m args below meth c cells slots Q D A nL w pc (lv) (.int x :: st) := by
  subst hp; exact fun H locs ls hP hD hS hl => lv_if_ne C.1 C.2.1 hdg ht (fun h => kt (by first | exact h | simpa using h) H locs ls hP hD hS hl) (fun h => kf (by first | exact h | simpa using h) H locs ls hP hD hS hl)
theorem j_ic_ne (C : Cx p R s m args c cc nL own D (cyI, cyZ, cyO) A) {x y : Int32} {off : Int} (tgt : Nat) {pc' : Nat} (hdg : decode cc pc = .ok (.if_icmp .ne off, 3)) (ht : (pc : Int) + off = (tgt : Int)) (hp : pc + 3 = pc') (kt : ¬ x = y → J p l e R s m args below meth c cells slots Q D A nL w tgt (lv) (st)) (kf : ¬ (¬ x = y) → J p l e R s m args below meth c cells slots Q D A nL w pc' (lv) (st)) : J p l e R s m args below meth c cells slots Q D A nL w pc (lv) (.int y :: .int x :: st) := by
  subst hp; exact fun H locs ls hP hD hS hl => lv_icmp_ne C.1 C.2.1 hdg ht (fun h => kt (by first | exact h | simpa using h) H locs ls hP hD hS hl) (fun h => kf (by first | exact h | simpa using h) H locs ls hP hD hS hl)
theorem j_if_lt (C : Cx p R s m args c cc nL own D (cyI, cyZ, cyO) A) {x : Int32} {off : Int} (tgt : Nat) {pc' : Nat} (hdg : decode cc pc = .ok (.ifCond .lt off, 3)) (ht : (pc : Int) + off = (tgt : Int)) (hp : pc + 3 = pc') (kt : x < 0 → J p l e R s m args below meth c cells slots Q D A nL w tgt (lv) (st)) (kf : ¬ (x < 0) → J p l e R s m args below meth c cells slots Q D A nL w pc' (lv) (st)) : J p l e R s m args below meth c cells slots Q D A nL w pc (lv) (.int x :: st) := by
  subst hp; exact fun H locs ls hP hD hS hl => lv_if_lt C.1 C.2.1 hdg ht (fun h => kt (by first | exact h | simpa using h) H locs ls hP hD hS hl) (fun h => kf (by first | exact h | simpa using h) H locs ls hP hD hS hl)
theorem j_ic_lt (C : Cx p R s m args c cc nL own D (cyI, cyZ, cyO) A) {x y : Int32} {off : Int} (tgt : Nat) {pc' : Nat} (hdg : decode cc pc = .ok (.if_icmp .lt off, 3)) (ht : (pc : Int) + off = (tgt : Int)) (hp : pc + 3 = pc') (kt : x < y → J p l e R s m args below meth c cells slots Q D A nL w tgt (lv) (st)) (kf : ¬ (x < y) → J p l e R s m args below meth c cells slots Q D A nL w pc' (lv) (st)) : J p l e R s m args below meth c cells slots Q D A nL w pc (lv) (.int y :: .int x :: st) := by
  subst hp; exact fun H locs ls hP hD hS hl => lv_icmp_lt C.1 C.2.1 hdg ht (fun h => kt (by first | exact h | simpa using h) H locs ls hP hD hS hl) (fun h => kf (by first | exact h | simpa using h) H locs ls hP hD hS hl)
theorem j_if_ge (C : Cx p R s m args c cc nL own D (cyI, cyZ, cyO) A) {x : Int32} {off : Int} (tgt : Nat) {pc' : Nat} (hdg : decode cc pc = .ok (.ifCond .ge off, 3)) (ht : (pc : Int) + off = (tgt : Int)) (hp : pc + 3 = pc') (kt : 0 ≤ x → J p l e R s m args below meth c cells slots Q D A nL w tgt (lv) (st)) (kf : ¬ (0 ≤ x) → J p l e R s m args below meth c cells slots Q D A nL w pc' (lv) (st)) : J p l e R s m args below meth c cells slots Q D A nL w pc (lv) (.int x :: st) := by
  subst hp; exact fun H locs ls hP hD hS hl => lv_if_ge C.1 C.2.1 hdg ht (fun h => kt (by first | exact h | simpa using h) H locs ls hP hD hS hl) (fun h => kf (by first | exact h | simpa using h) H locs ls hP hD hS hl)
theorem j_ic_ge (C : Cx p R s m args c cc nL own D (cyI, cyZ, cyO) A) {x y : Int32} {off : Int} (tgt : Nat) {pc' : Nat} (hdg : decode cc pc = .ok (.if_icmp .ge off, 3)) (ht : (pc : Int) + off = (tgt : Int)) (hp : pc + 3 = pc') (kt : y ≤ x → J p l e R s m args below meth c cells slots Q D A nL w tgt (lv) (st)) (kf : ¬ (y ≤ x) → J p l e R s m args below meth c cells slots Q D A nL w pc' (lv) (st)) : J p l e R s m args below meth c cells slots Q D A nL w pc (lv) (.int y :: .int x :: st) := by
  subst hp; exact fun H locs ls hP hD hS hl => lv_icmp_ge C.1 C.2.1 hdg ht (fun h => kt (by first | exact h | simpa using h) H locs ls hP hD hS hl) (fun h => kf (by first | exact h | simpa using h) H locs ls hP hD hS hl)
theorem j_if_gt (C : Cx p R s m args c cc nL own D (cyI, cyZ, cyO) A) {x : Int32} {off : Int} (tgt : Nat) {pc' : Nat} (hdg : decode cc pc = .ok (.ifCond .gt off, 3)) (ht : (pc : Int) + off = (tgt : Int)) (hp : pc + 3 = pc') (kt : 0 < x → J p l e R s m args below meth c cells slots Q D A nL w tgt (lv) (st)) (kf : ¬ (0 < x) → J p l e R s m args below meth c cells slots Q D A nL w pc' (lv) (st)) : J p l e R s m args below meth c cells slots Q D A nL w pc (lv) (.int x :: st) := by
  subst hp; exact fun H locs ls hP hD hS hl => lv_if_gt C.1 C.2.1 hdg ht (fun h => kt (by first | exact h | simpa using h) H locs ls hP hD hS hl) (fun h => kf (by first | exact h | simpa using h) H locs ls hP hD hS hl)
theorem j_ic_gt (C : Cx p R s m args c cc nL own D (cyI, cyZ, cyO) A) {x y : Int32} {off : Int} (tgt : Nat) {pc' : Nat} (hdg : decode cc pc = .ok (.if_icmp .gt off, 3)) (ht : (pc : Int) + off = (tgt : Int)) (hp : pc + 3 = pc') (kt : y < x → J p l e R s m args below meth c cells slots Q D A nL w tgt (lv) (st)) (kf : ¬ (y < x) → J p l e R s m args below meth c cells slots Q D A nL w pc' (lv) (st)) : J p l e R s m args below meth c cells slots Q D A nL w pc (lv) (.int y :: .int x :: st) := by
  subst hp; exact fun H locs ls hP hD hS hl => lv_icmp_gt C.1 C.2.1 hdg ht (fun h => kt (by first | exact h | simpa using h) H locs ls hP hD hS hl) (fun h => kf (by first | exact h | simpa using h) H locs ls hP hD hS hl)
theorem j_if_le (C : Cx p R s m args c cc nL own D (cyI, cyZ, cyO) A) {x : Int32} {off : Int} (tgt : Nat) {pc' : Nat} (hdg : decode cc pc = .ok (.ifCond .le off, 3)) (ht : (pc : Int) + off = (tgt : Int)) (hp : pc + 3 = pc') (kt : x ≤ 0 → J p l e R s m args below meth c cells slots Q D A nL w tgt (lv) (st)) (kf : ¬ (x ≤ 0) → J p l e R s m args below meth c cells slots Q D A nL w pc' (lv) (st)) : J p l e R s m args below meth c cells slots Q D A nL w pc (lv) (.int x :: st) := by
  subst hp; exact fun H locs ls hP hD hS hl => lv_if_le C.1 C.2.1 hdg ht (fun h => kt (by first | exact h | simpa using h) H locs ls hP hD hS hl) (fun h => kf (by first | exact h | simpa using h) H locs ls hP hD hS hl)
theorem j_ic_le (C : Cx p R s m args c cc nL own D (cyI, cyZ, cyO) A) {x y : Int32} {off : Int} (tgt : Nat) {pc' : Nat} (hdg : decode cc pc = .ok (.if_icmp .le off, 3)) (ht : (pc : Int) + off = (tgt : Int)) (hp : pc + 3 = pc') (kt : x ≤ y → J p l e R s m args below meth c cells slots Q D A nL w tgt (lv) (st)) (kf : ¬ (x ≤ y) → J p l e R s m args below meth c cells slots Q D A nL w pc' (lv) (st)) : J p l e R s m args below meth c cells slots Q D A nL w pc (lv) (.int y :: .int x :: st) := by
  subst hp; exact fun H locs ls hP hD hS hl => lv_icmp_le C.1 C.2.1 hdg ht (fun h => kt (by first | exact h | simpa using h) H locs ls hP hD hS hl) (fun h => kf (by first | exact h | simpa using h) H locs ls hP hD hS hl)
theorem j_nc_eq (C : Cx p R s m args c cc nL own D (cyI, cyZ, cyO) A) {a b : Nat} {off : Int} (tgt : Nat) {pc' : Nat} (hdg : decode cc pc = .ok (.if_icmp .eq off, 3)) (ht : (pc : Int) + off = (tgt : Int)) (hp : pc + 3 = pc') (hx : a < 2147483648) (hy : b < 2147483648) (kt : a = b → J p l e R s m args below meth c cells slots Q D A nL w tgt (lv) (st)) (kf : ¬ a = b → J p l e R s m args below meth c cells slots Q D A nL w pc' (lv) (st)) : J p l e R s m args below meth c cells slots Q D A nL w pc (lv) (.int (nI b) :: .int (nI a) :: st) :=
  j_ic_eq C tgt hdg ht hp (fun h => kt ((nI_eq hx hy).mp h)) (fun h => kf (fun q => h ((nI_eq hx hy).mpr q)))
theorem j_nc_ne (C : Cx p R s m args c cc nL own D (cyI, cyZ, cyO) A) {a b : Nat} {off : Int} (tgt : Nat) {pc' : Nat} (hdg : decode cc pc = .ok (.if_icmp .ne off, 3)) (ht : (pc : Int) + off = (tgt : Int)) (hp : pc + 3 = pc') (hx : a < 2147483648) (hy : b < 2147483648) (kt : ¬ a = b → J p l e R s m args below meth c cells slots Q D A nL w tgt (lv) (st)) (kf : a = b → J p l e R s m args below meth c cells slots Q D A nL w pc' (lv) (st)) : J p l e R s m args below meth c cells slots Q D A nL w pc (lv) (.int (nI b) :: .int (nI a) :: st) :=
  j_ic_ne C tgt hdg ht hp (fun h => kt (fun q => h ((nI_eq hx hy).mpr q))) (fun h => kf ((nI_eq hx hy).mp (Classical.not_not.mp h)))
theorem j_nc_lt (C : Cx p R s m args c cc nL own D (cyI, cyZ, cyO) A) {a b : Nat} {off : Int} (tgt : Nat) {pc' : Nat} (hdg : decode cc pc = .ok (.if_icmp .lt off, 3)) (ht : (pc : Int) + off = (tgt : Int)) (hp : pc + 3 = pc') (hx : a < 2147483648) (hy : b < 2147483648) (kt : a < b → J p l e R s m args below meth c cells slots Q D A nL w tgt (lv) (st)) (kf : b ≤ a → J p l e R s m args below meth c cells slots Q D A nL w pc' (lv) (st)) : J p l e R s m args below meth c cells slots Q D A nL w pc (lv) (.int (nI b) :: .int (nI a) :: st) :=
  j_ic_lt C tgt hdg ht hp (fun h => kt ((nI_ltI hx hy).mp h)) (fun h => kf (Nat.not_lt.mp (fun q => h ((nI_ltI hx hy).mpr q))))
theorem j_nc_ge (C : Cx p R s m args c cc nL own D (cyI, cyZ, cyO) A) {a b : Nat} {off : Int} (tgt : Nat) {pc' : Nat} (hdg : decode cc pc = .ok (.if_icmp .ge off, 3)) (ht : (pc : Int) + off = (tgt : Int)) (hp : pc + 3 = pc') (hx : a < 2147483648) (hy : b < 2147483648) (kt : b ≤ a → J p l e R s m args below meth c cells slots Q D A nL w tgt (lv) (st)) (kf : a < b → J p l e R s m args below meth c cells slots Q D A nL w pc' (lv) (st)) : J p l e R s m args below meth c cells slots Q D A nL w pc (lv) (.int (nI b) :: .int (nI a) :: st) :=
  j_ic_ge C tgt hdg ht hp (fun h => kt ((nI_leI hy hx).mp h)) (fun h => kf (Nat.not_le.mp (fun q => h ((nI_leI hy hx).mpr q))))
theorem j_nc_gt (C : Cx p R s m args c cc nL own D (cyI, cyZ, cyO) A) {a b : Nat} {off : Int} (tgt : Nat) {pc' : Nat} (hdg : decode cc pc = .ok (.if_icmp .gt off, 3)) (ht : (pc : Int) + off = (tgt : Int)) (hp : pc + 3 = pc') (hx : a < 2147483648) (hy : b < 2147483648) (kt : b < a → J p l e R s m args below meth c cells slots Q D A nL w tgt (lv) (st)) (kf : a ≤ b → J p l e R s m args below meth c cells slots Q D A nL w pc' (lv) (st)) : J p l e R s m args below meth c cells slots Q D A nL w pc (lv) (.int (nI b) :: .int (nI a) :: st) :=
  j_ic_gt C tgt hdg ht hp (fun h => kt ((nI_ltI hy hx).mp h)) (fun h => kf (Nat.not_lt.mp (fun q => h ((nI_ltI hy hx).mpr q))))
theorem j_nc_le (C : Cx p R s m args c cc nL own D (cyI, cyZ, cyO) A) {a b : Nat} {off : Int} (tgt : Nat) {pc' : Nat} (hdg : decode cc pc = .ok (.if_icmp .le off, 3)) (ht : (pc : Int) + off = (tgt : Int)) (hp : pc + 3 = pc') (hx : a < 2147483648) (hy : b < 2147483648) (kt : a ≤ b → J p l e R s m args below meth c cells slots Q D A nL w tgt (lv) (st)) (kf : b < a → J p l e R s m args below meth c cells slots Q D A nL w pc' (lv) (st)) : J p l e R s m args below meth c cells slots Q D A nL w pc (lv) (.int (nI b) :: .int (nI a) :: st) :=
  j_ic_le C tgt hdg ht hp (fun h => kt ((nI_leI hx hy).mp h)) (fun h => kf (Nat.not_le.mp (fun q => h ((nI_leI hx hy).mpr q))))
theorem j_nz_eq (C : Cx p R s m args c cc nL own D (cyI, cyZ, cyO) A) {a : Nat} {off : Int} (tgt : Nat) {pc' : Nat} (hdg : decode cc pc = .ok (.ifCond .eq off, 3)) (ht : (pc : Int) + off = (tgt : Int)) (hp : pc + 3 = pc') (hx : a < 2147483648) (kt : a = 0 → J p l e R s m args below meth c cells slots Q D A nL w tgt (lv) (st)) (kf : ¬ a = 0 → J p l e R s m args below meth c cells slots Q D A nL w pc' (lv) (st)) : J p l e R s m args below meth c cells slots Q D A nL w pc (lv) (.int (nI a) :: st) :=
  j_if_eq C tgt hdg ht hp (fun h => kt ((nI_eq hx (by omega)).mp (h.trans nI_0.symm))) (fun h => kf (fun q => h (by rw [q]; exact nI_0)))
theorem j_nz_ne (C : Cx p R s m args c cc nL own D (cyI, cyZ, cyO) A) {a : Nat} {off : Int} (tgt : Nat) {pc' : Nat} (hdg : decode cc pc = .ok (.ifCond .ne off, 3)) (ht : (pc : Int) + off = (tgt : Int)) (hp : pc + 3 = pc') (hx : a < 2147483648) (kt : ¬ a = 0 → J p l e R s m args below meth c cells slots Q D A nL w tgt (lv) (st)) (kf : a = 0 → J p l e R s m args below meth c cells slots Q D A nL w pc' (lv) (st)) : J p l e R s m args below meth c cells slots Q D A nL w pc (lv) (.int (nI a) :: st) :=
  j_if_ne C tgt hdg ht hp (fun h => kt (fun q => h (by rw [q]; exact nI_0))) (fun h => kf ((nI_eq hx (by omega)).mp ((Classical.not_not.mp h).trans nI_0.symm)))
theorem j_nz_gt (C : Cx p R s m args c cc nL own D (cyI, cyZ, cyO) A) {a : Nat} {off : Int} (tgt : Nat) {pc' : Nat} (hdg : decode cc pc = .ok (.ifCond .gt off, 3)) (ht : (pc : Int) + off = (tgt : Int)) (hp : pc + 3 = pc') (hx : a < 2147483648) (kt : 0 < a → J p l e R s m args below meth c cells slots Q D A nL w tgt (lv) (st)) (kf : a = 0 → J p l e R s m args below meth c cells slots Q D A nL w pc' (lv) (st)) : J p l e R s m args below meth c cells slots Q D A nL w pc (lv) (.int (nI a) :: st) :=
  j_if_gt C tgt hdg ht hp (fun h => kt ((nI_ltI (by omega) hx).mp (by rw [nI_0]; exact h))) (fun h => kf (Nat.eq_zero_of_not_pos (fun q => h (by rw [← nI_0]; exact (nI_ltI (by omega) hx).mpr q))))
theorem j_b_eq (C : Cx p R s m args c cc nL own D (cyI, cyZ, cyO) A) {b : Bool} {off : Int} (tgt : Nat) {pc' : Nat} (hdg : decode cc pc = .ok (.ifCond .eq off, 3)) (ht : (pc : Int) + off = (tgt : Int)) (hp : pc + 3 = pc') (kt : b = false → J p l e R s m args below meth c cells slots Q D A nL w tgt (lv) (st)) (kf : b = true → J p l e R s m args below meth c cells slots Q D A nL w pc' (lv) (st)) : J p l e R s m args below meth c cells slots Q D A nL w pc (lv) (.int (bI b) :: st) :=
  j_if_eq C tgt hdg ht hp (fun h => kt (bI_0.mp h)) (fun h => kf (by cases b; exact absurd rfl h; rfl))
theorem j_b_ne (C : Cx p R s m args c cc nL own D (cyI, cyZ, cyO) A) {b : Bool} {off : Int} (tgt : Nat) {pc' : Nat} (hdg : decode cc pc = .ok (.ifCond .ne off, 3)) (ht : (pc : Int) + off = (tgt : Int)) (hp : pc + 3 = pc') (kt : b = true → J p l e R s m args below meth c cells slots Q D A nL w tgt (lv) (st)) (kf : b = false → J p l e R s m args below meth c cells slots Q D A nL w pc' (lv) (st)) : J p l e R s m args below meth c cells slots Q D A nL w pc (lv) (.int (bI b) :: st) :=
  j_if_ne C tgt hdg ht hp (fun h => kt (by cases b; exact absurd rfl h; rfl)) (fun h => kf (bI_0.mp (Classical.not_not.mp h)))
theorem j_goto (C : Cx p R s m args c cc nL own D (cyI, cyZ, cyO) A) {off : Int} (tgt : Nat) (hdg : decode cc pc = .ok (.goto off, 3)) (ht : (pc : Int) + off = (tgt : Int)) (k : J p l e R s m args below meth c cells slots Q D A nL w tgt (lv) (st)) : J p l e R s m args below meth c cells slots Q D A nL w pc (lv) (st) := fun H locs ls hP hD hS hl => lv_goto C.1 C.2.1 hdg ht (k H locs ls hP hD hS hl)
theorem j_tin (C : Cx p R s m args c cc nL own D (cyI, cyZ, cyO) A) {dflt lo hi : Int} {offs : Array Int} {len : Nat} {x : Int32} {off : Int} (tgt : Nat) (hdg : decode cc pc = .ok (.tableswitch dflt lo hi offs, len)) (h1 : ¬ x.toInt < lo) (h2 : ¬ hi < x.toInt) (ho : offs[(x.toInt - lo).toNat]? = some off) (ht : (pc : Int) + off = (tgt : Int)) (k : J p l e R s m args below meth c cells slots Q D A nL w tgt (lv) (st)) : J p l e R s m args below meth c cells slots Q D A nL w pc (lv) (.int x :: st) := fun H locs ls hP hD hS hl => lv_tableIn C.1 C.2.1 hdg h1 h2 ho ht (k H locs ls hP hD hS hl)
theorem j_tout (C : Cx p R s m args c cc nL own D (cyI, cyZ, cyO) A) {dflt lo hi : Int} {offs : Array Int} {len : Nat} {x : Int32} (tgt : Nat) (hdg : decode cc pc = .ok (.tableswitch dflt lo hi offs, len)) (h : x.toInt < lo ∨ hi < x.toInt) (ht : (pc : Int) + dflt = (tgt : Int)) (k : J p l e R s m args below meth c cells slots Q D A nL w tgt (lv) (st)) : J p l e R s m args below meth c cells slots Q D A nL w pc (lv) (.int x :: st) := fun H locs ls hP hD hS hl => lv_tableOut C.1 C.2.1 hdg h ht (k H locs ls hP hD hS hl)
theorem j_look (C : Cx p R s m args c cc nL own D (cyI, cyZ, cyO) A) {dflt : Int} {ps : Array (Int × Int)} {len : Nat} {x : Int32} {off : Int} (tgt : Nat) (hdg : decode cc pc = .ok (.lookupswitch dflt ps, len)) (hq : (ps.toList.zip (ps.toList.drop 1)).all (fun (a, next) => a.1 < next.1) = true) (ho : Op.lookupswitch.offset ps.toList dflt x.toInt = off) (ht : (pc : Int) + off = (tgt : Int)) (k : J p l e R s m args below meth c cells slots Q D A nL w tgt (lv) (st)) : J p l e R s m args below meth c cells slots Q D A nL w pc (lv) (.int x :: st) := fun H locs ls hP hD hS hl => lv_lookup C.1 C.2.1 hdg hq ho ht (k H locs ls hP hD hS hl)
theorem j_get (C : Cx p R s m args c cc nL own D (cyI, cyZ, cyO) A) {ci N : Nat} {CN : String} {T : u_T} {ty : Nat → FieldType} {a index : Nat} {fs : List Value} {v : Value} {pc' : Nat} (hk0 : Ko ci CN T N ty) (q0 k0 : Nat) (he : w[q0]? = some (a, .inr (ci, fs))) (hkN : k0 < N) (hlink : Cond.fieldLink own index CN (T k0).2.1 (T k0).2.2.1 ∈ lw_T) (hcn : (T k0).1 = CN) (hv : fs[k0]? = some v) (hdg : decode cc pc = .ok (.getfield index, 3)) (hp : pc + 3 = pc') (k : J p l e R s m args below meth c cells slots Q D A nL w pc' (lv) (v :: st)) : J p l e R s m args below meth c cells slots Q D A nL w pc (lv) (.ref a :: st) := by
  subst hp; exact fun H locs ls hP hD hS hl => va_get C.1 C.2.1 C.2.2.2.2.1 hk0.1 C.2.2.2.1 C.2.2.2.2.2.1 hP q0 he hk0.2.2.2 k0 hkN (C.2.2.2.2.1 _ hlink) (fun x h => by rw [← hcn]; exact h) hv hdg (k H locs ls hP hD hS hl)
theorem j_put (C : Cx p R s m args c cc nL own D (cyI, cyZ, cyO) A) {ci N : Nat} {CN : String} {T : u_T} {ty : Nat → FieldType} {a index : Nat} {fs : List Value} {v : Value} {pc' : Nat} (w' : va_W) (hk0 : Ko ci CN T N ty) (q0 k0 : Nat) (he : w[q0]? = some (a, .inr (ci, fs))) (hkN : k0 < N) (hlink : Cond.fieldLink own index CN (T k0).2.1 (T k0).2.2.1 ∈ lw_T) (hcn : (T k0).1 = CN) (hfin : (T k0).2.2.2 = false) (hnr : narrow (ty k0) v = v) (hft : fits (ty k0) v = true) (hlf : k0 < fs.length) (hdg : decode cc pc = .ok (.putfield index, 3)) (hp : pc + 3 = pc') (hw : w.set q0 (a, .inr (ci, fs.set k0 v)) = w') (k : J p l e R s m args below meth c cells slots Q D A nL w' pc' (lv) (st)) : J p l e R s m args below meth c cells slots Q D A nL w pc (lv) (v :: .ref a :: st) := by
  subst hp; subst hw; exact fun H locs ls hP hD hS hl => va_put C.1 C.2.1 C.2.2.2.2.1 hk0.1 ty hk0.2.1 hk0.2.2.1 C.2.2.2.1 C.2.2.2.2.2.1 hP hD hS q0 he hk0.2.2.2 k0 hkN (C.2.2.2.2.1 _ hlink) (fun x h => by rw [← hcn]; exact h) hfin (hk0.2.1 k0 hkN) hnr hft hlf hdg (fun H1 locs1 hP1 hD1 hS1 => k H1 locs1 ls hP1 hD1 hS1 hl)
theorem j_putF (C : Cx p R s m args c cc nL own D (cyI, cyZ, cyO) A) {ci N : Nat} {CN : String} {T : u_T} {ty : Nat → FieldType} {a index : Nat} {fs : List Value} {v : Value} {pc' : Nat} (w' : va_W) (hin2 : meth.name = "<init>") (hk0 : Ko ci CN T N ty) (q0 k0 : Nat) (he : w[q0]? = some (a, .inr (ci, fs))) (hkN : k0 < N) (hlink : Cond.fieldLink own index CN (T k0).2.1 (T k0).2.2.1 ∈ lw_T) (hcn : (T k0).1 = CN) (hown2 : CN = own) (hfin : (T k0).2.2.2 = true) (hnr : narrow (ty k0) v = v) (hft : fits (ty k0) v = true) (hlf : k0 < fs.length) (hdg : decode cc pc = .ok (.putfield index, 3)) (hp : pc + 3 = pc') (hw : w.set q0 (a, .inr (ci, fs.set k0 v)) = w') (k : J p l e R s m args below meth c cells slots Q D A nL w' pc' (lv) (st)) : J p l e R s m args below meth c cells slots Q D A nL w pc (lv) (v :: .ref a :: st) := by
  subst hp; subst hw; exact fun H locs ls hP hD hS hl => va_putF C.1 C.2.1 C.2.2.2.2.1 hk0.1 ty hk0.2.1 hk0.2.2.1 C.2.2.2.1 C.2.2.2.2.2.1 hP hD hS q0 he hk0.2.2.2 k0 hkN (C.2.2.2.2.1 _ hlink) (fun x h => by rw [← hcn]; exact h) hfin hin2 (hcn.trans hown2) (hk0.2.1 k0 hkN) hnr hft hlf hdg (fun H1 locs1 hP1 hD1 hS1 => k H1 locs1 ls hP1 hD1 hS1 hl)
theorem j_iald (C : Cx p R s m args c cc nL own D (cyI, cyZ, cyO) A) {a n j : Nat} {f : Nat → Int32} {pc' : Nat} (q0 : Nat) (he : w[q0]? = some (a, .inl (cyI, n, .inl f))) (hj : j < n) (hn : n < 2147483648) (hdg : decode cc pc = .ok (.iaload, 1)) (hp : pc + 1 = pc') (k : J p l e R s m args below meth c cells slots Q D A nL w pc' (lv) (.int (f j) :: st)) : J p l e R s m args below meth c cells slots Q D A nL w pc (lv) (.int (nI j) :: .ref a :: st) := by
  subst hp; exact fun H locs ls hP hD hS hl => va_iald C.1 C.2.1 C.2.2.2.2.2.1 hP q0 0 he rfl (vp_in_nI hj hn) hdg (by rw [nI_clamp (by omega)]; exact (k H locs ls hP hD hS hl))
theorem j_nald (C : Cx p R s m args c cc nL own D (cyI, cyZ, cyO) A) {a n j : Nat} {g : Nat → Nat} {pc' : Nat} (q0 : Nat) (he : w[q0]? = some (a, .inl (cyI, n, .inl (nA g)))) (hj : j < n) (hn : n < 2147483648) (hdg : decode cc pc = .ok (.iaload, 1)) (hp : pc + 1 = pc') (k : J p l e R s m args below meth c cells slots Q D A nL w pc' (lv) (.int (nI (g j)) :: st)) : J p l e R s m args below meth c cells slots Q D A nL w pc (lv) (.int (nI j) :: .ref a :: st) := j_iald C q0 he hj hn hdg hp k
theorem j_zald (C : Cx p R s m args c cc nL own D (cyI, cyZ, cyO) A) {a n j : Nat} {g : Nat → Bool} {pc' : Nat} (q0 : Nat) (he : w[q0]? = some (a, .inl (cyZ, n, .inl (bA g)))) (hj : j < n) (hn : n < 2147483648) (hdg : decode cc pc = .ok (.baload, 1)) (hp : pc + 1 = pc') (k : J p l e R s m args below meth c cells slots Q D A nL w pc' (lv) (.int (bI (g j)) :: st)) : J p l e R s m args below meth c cells slots Q D A nL w pc (lv) (.int (nI j) :: .ref a :: st) := by
  subst hp; exact fun H locs ls hP hD hS hl => va_zald C.1 C.2.1 C.2.2.2.2.2.1 hP q0 1 he rfl (vp_in_nI hj hn) hdg (by rw [nI_clamp (by omega)]; exact (k H locs ls hP hD hS hl))
theorem j_iast (C : Cx p R s m args c cc nL own D (cyI, cyZ, cyO) A) {a n j : Nat} {f : Nat → Int32} {x : Int32} {pc' : Nat} (w' : va_W) (q0 : Nat) (he : w[q0]? = some (a, .inl (cyI, n, .inl f))) (hj : j < n) (hn : n < 2147483648) (hdg : decode cc pc = .ok (.iastore, 1)) (hp : pc + 1 = pc') (hw : w.set q0 (a, .inl (cyI, n, .inl (upd f j x))) = w') (k : J p l e R s m args below meth c cells slots Q D A nL w' pc' (lv) (st)) : J p l e R s m args below meth c cells slots Q D A nL w pc (lv) (.int x :: .int (nI j) :: .ref a :: st) := by
  subst hp; subst hw; exact fun H locs ls hP hD hS hl => va_iast C.1 C.2.1 C.2.2.2.2.2.1 hP hD hS q0 0 he rfl (vp_in_nI hj hn) hdg (fun H1 locs1 hP1 hD1 hS1 => k H1 locs1 ls (by rw [nI_clamp (by omega)] at hP1; exact hP1) (by rw [nI_clamp (by omega)] at hD1; exact hD1) hS1 hl)
theorem j_nast (C : Cx p R s m args c cc nL own D (cyI, cyZ, cyO) A) {a n j x : Nat} {g : Nat → Nat} {pc' : Nat} (w' : va_W) (q0 : Nat) (he : w[q0]? = some (a, .inl (cyI, n, .inl (nA g)))) (hj : j < n) (hn : n < 2147483648) (hdg : decode cc pc = .ok (.iastore, 1)) (hp : pc + 1 = pc') (hw : w.set q0 (a, .inl (cyI, n, .inl (nA (uN g j x)))) = w') (k : J p l e R s m args below meth c cells slots Q D A nL w' pc' (lv) (st)) : J p l e R s m args below meth c cells slots Q D A nL w pc (lv) (.int (nI x) :: .int (nI j) :: .ref a :: st) := j_iast C w' q0 he hj hn hdg hp (by rw [upd_nA]; exact hw) k
theorem j_zast (C : Cx p R s m args c cc nL own D (cyI, cyZ, cyO) A) {a n j : Nat} {x : Bool} {g : Nat → Bool} {pc' : Nat} (w' : va_W) (q0 : Nat) (he : w[q0]? = some (a, .inl (cyZ, n, .inl (bA g)))) (hj : j < n) (hn : n < 2147483648) (hdg : decode cc pc = .ok (.bastore, 1)) (hp : pc + 1 = pc') (hw : w.set q0 (a, .inl (cyZ, n, .inl (bA (uB g j x)))) = w') (k : J p l e R s m args below meth c cells slots Q D A nL w' pc' (lv) (st)) : J p l e R s m args below meth c cells slots Q D A nL w pc (lv) (.int (bI x) :: .int (nI j) :: .ref a :: st) := by
  subst hp; subst hw; exact fun H locs ls hP hD hS hl => va_zast C.1 C.2.1 C.2.2.2.2.2.1 hP hD hS q0 1 he rfl (vp_in_nI hj hn) hdg (fun H1 locs1 hP1 hD1 hS1 => k H1 locs1 ls (by rw [nI_clamp (by omega), nar_bI, upd_bA] at hP1; exact hP1) (by rw [nI_clamp (by omega), nar_bI, upd_bA] at hD1; exact hD1) hS1 hl)
theorem j_perm (w' : va_W) (is : List Nat) (h : is.map (fun i => w[i]?) = w'.map some) (h2 : is.filterMap (fun i => w[i]?) = w') (hn : va_nd is = true) (k : J p l e R s m args below meth c cells slots Q D A nL w' pc (lv) (st)) : J p l e R s m args below meth c cells slots Q D A nL w pc (lv) (st) := fun H locs ls hP hD hS hl => k H locs ls (hP.sub is h2) (hD.sub is hn h) hS hl
theorem j_lsub (lv' : List (Nat × Value)) (is : List Nat) (h : lv_pick lv is = lv') (k : J p l e R s m args below meth c cells slots Q D A nL w pc (lv') (st)) : J p l e R s m args below meth c cells slots Q D A nL w pc (lv) (st) := fun H locs ls hP hD hS hl => k H locs ls hP hD hS (lv_sub hl is h)
theorem j_top {x : Int32} (y : Int32) (h : x = y) (k : J p l e R s m args below meth c cells slots Q D A nL w pc (lv) (.int y :: st)) : J p l e R s m args below meth c cells slots Q D A nL w pc (lv) (.int x :: st) := by rw [h]; exact k
theorem j_topl {x : Int64} (y : Int64) (h : x = y) (k : J p l e R s m args below meth c cells slots Q D A nL w pc (lv) (.long y :: st)) : J p l e R s m args below meth c cells slots Q D A nL w pc (lv) (.long x :: st) := by rw [h]; exact k
theorem j_nm {x : Int32} (k : ∀ y : Int32, y = x → J p l e R s m args below meth c cells slots Q D A nL w pc (lv) (.int y :: st)) : J p l e R s m args below meth c cells slots Q D A nL w pc (lv) (.int x :: st) := k x rfl
theorem j_w (w' : va_W) (h : w = w') (k : J p l e R s m args below meth c cells slots Q D A nL w' pc (lv) (st)) : J p l e R s m args below meth c cells slots Q D A nL w pc (lv) (st) := by rw [h]; exact k
end JR
end
section
theorem fm_of_map {α β : Type} {f : α → Option β} {is : List α} {l : List β} (h : is.map f = l.map some) : is.filterMap f = l := by
  have h1 : is.filterMap f = (is.map f).filterMap id := by rw [List.filterMap_map]; rfl
  rw [h1, h, List.filterMap_map]
  have h2 : (id ∘ (some : β → Option β)) = some := rfl
  rw [h2]
  exact List.filterMap_some
theorem T_in {y : MethodName} {cc : ByteArray} {n : Nat} {ret : Option FieldType} (h : Cond.code y cc n ret ∈ lw_T) : GoodIn lw_T (Cond.code y cc n ret :: lw_T) := by
  intro x hx
  have hm : x ∈ lw_T := by
    rcases List.mem_cons.mp hx with e | e
    · rw [e]; exact h
    · exact e
  exact ⟨hm, good_of_word (T_gw hm)⟩
/-- a contract's start: the world w, the tables -/
def Pz (D : va_G) (cy : ClassId × ClassId × ClassId) (av : List Value) (w : va_W) (sz : Nat) : Array Value → State → Prop := va_Pc av (fun U => U.heap.size = sz ∧ va_P D vwCl w U.heap ∧ va_K D vwCl (ty3 cy) U ∧ va_D (fun _ => True) w ∧ EC (va_A w sz) U U.heap)
def Bz (D : va_G) (w : va_W) (sz : Nat) : va_W → State → Prop := fun w' t => va_P D vwCl w' t.heap ∧ va_D (va_A w sz) w'
/-- contracts: from the world w with the arguments av to a world and an answer of which Qr holds -/
def Ki (l : Launch) (y : MethodName) (cc : ByteArray) (maxL : Nat) (rt : FieldType) (rm : Room) (D : va_G) (cy : ClassId × ClassId × ClassId) (av : List Value) (w : va_W) (Qr : Int32 → va_W → Prop) : Prop := ∀ sz : Nat, Met l y (.code y cc maxL (some rt) :: lw_T) rm (Pz D cy av w sz) (va_Qi Qr (Bz D w sz) (va_A w sz)) rm.cells rm.slots (va_A w sz)
def Kl (l : Launch) (y : MethodName) (cc : ByteArray) (maxL : Nat) (rt : FieldType) (rm : Room) (D : va_G) (cy : ClassId × ClassId × ClassId) (av : List Value) (w : va_W) (Qr : Int64 → va_W → Prop) : Prop := ∀ sz : Nat, Met l y (.code y cc maxL (some rt) :: lw_T) rm (Pz D cy av w sz) (va_Ql Qr (Bz D w sz) (va_A w sz)) rm.cells rm.slots (va_A w sz)
def Kv (l : Launch) (y : MethodName) (cc : ByteArray) (maxL : Nat) (rm : Room) (D : va_G) (cy : ClassId × ClassId × ClassId) (av : List Value) (w : va_W) (Qr : va_W → Prop) : Prop := ∀ sz : Nat, Met l y (.code y cc maxL none :: lw_T) rm (Pz D cy av w sz) (va_Qv Qr (Bz D w sz) (va_A w sz)) rm.cells rm.slots (va_A w sz)
theorem Ki.of {l : Launch} {y : MethodName} {cc : ByteArray} {maxL : Nat} {rt : FieldType} {rm : Room} {D : va_G} {cy : ClassId × ClassId × ClassId} {av : List Value} {w : va_W} {Qr : Int32 → va_W → Prop} {own : String} (ho : y.cls = own) (hy : plainName y.cls = true) (hlen : (lg_sl av).length ≤ maxL)
    (body : ∀ (p : Program) (e : Env) (s : State) (m : MethodId) (args : Array Value) (below : List Frame) (meth : Method) (c : Code) (A : Nat → Prop), Cx p rm s m args c cc maxL own D cy A → meth.sig.returnType = some rt → meth.locks = false → meth.name = y.name → A = va_A w s.heap.size → J p l e rm s m args below meth c 0 0 (MQ below (va_Qi Qr (Bz D w s.heap.size) A) args s rm.cells rm.slots A) D A maxL w 0 (lv_args 0 av) []) : Ki l y cc maxL rt rm D cy av w Qr := by
  intro sz
  refine Met.ofW (cc := cc) (maxL := maxL) (ret := some rt) hy rfl ?_
  intro p e s m args below meth c s₁ B hml hv
  obtain ⟨rfl, hsz, hP, hK, hD0, hE⟩ := hv
  subst hsz
  have hts := atoms_spec (ws := .code y cc maxL (some rt) :: lw_T) B.pre
  rw [lg_entry_eq]
  exact body p e s m _ below meth c _ ⟨B.exec, B.bytes, hml, ho ▸ findClass_of_methodNamed B.named, fun x hx => hts x (List.mem_cons_of_mem _ hx), hK, fun q h => Or.inr h, hE⟩ B.returns B.notSynchronized (name_of_methodNamed B.named B.method).1 rfl s.heap [] _ hP hD0.self va_S.rf (lv_entry av hlen)
theorem Kl.of {l : Launch} {y : MethodName} {cc : ByteArray} {maxL : Nat} {rt : FieldType} {rm : Room} {D : va_G} {cy : ClassId × ClassId × ClassId} {av : List Value} {w : va_W} {Qr : Int64 → va_W → Prop} {own : String} (ho : y.cls = own) (hy : plainName y.cls = true) (hlen : (lg_sl av).length ≤ maxL)
    (body : ∀ (p : Program) (e : Env) (s : State) (m : MethodId) (args : Array Value) (below : List Frame) (meth : Method) (c : Code) (A : Nat → Prop), Cx p rm s m args c cc maxL own D cy A → meth.sig.returnType = some rt → meth.locks = false → meth.name = y.name → A = va_A w s.heap.size → J p l e rm s m args below meth c 0 0 (MQ below (va_Ql Qr (Bz D w s.heap.size) A) args s rm.cells rm.slots A) D A maxL w 0 (lv_args 0 av) []) : Kl l y cc maxL rt rm D cy av w Qr := by
  intro sz
  refine Met.ofW (cc := cc) (maxL := maxL) (ret := some rt) hy rfl ?_
  intro p e s m args below meth c s₁ B hml hv
  obtain ⟨rfl, hsz, hP, hK, hD0, hE⟩ := hv
  subst hsz
  have hts := atoms_spec (ws := .code y cc maxL (some rt) :: lw_T) B.pre
  rw [lg_entry_eq]
  exact body p e s m _ below meth c _ ⟨B.exec, B.bytes, hml, ho ▸ findClass_of_methodNamed B.named, fun x hx => hts x (List.mem_cons_of_mem _ hx), hK, fun q h => Or.inr h, hE⟩ B.returns B.notSynchronized (name_of_methodNamed B.named B.method).1 rfl s.heap [] _ hP hD0.self va_S.rf (lv_entry av hlen)
theorem Kv.of {l : Launch} {y : MethodName} {cc : ByteArray} {maxL : Nat} {rm : Room} {D : va_G} {cy : ClassId × ClassId × ClassId} {av : List Value} {w : va_W} {Qr : va_W → Prop} {own : String} (ho : y.cls = own) (hy : plainName y.cls = true) (hlen : (lg_sl av).length ≤ maxL)
    (body : ∀ (p : Program) (e : Env) (s : State) (m : MethodId) (args : Array Value) (below : List Frame) (meth : Method) (c : Code) (A : Nat → Prop), Cx p rm s m args c cc maxL own D cy A → meth.sig.returnType = none → meth.locks = false → meth.name = y.name → A = va_A w s.heap.size → J p l e rm s m args below meth c 0 0 (MQ below (va_Qv Qr (Bz D w s.heap.size) A) args s rm.cells rm.slots A) D A maxL w 0 (lv_args 0 av) []) : Kv l y cc maxL rm D cy av w Qr := by
  intro sz
  refine Met.ofW (cc := cc) (maxL := maxL) (ret := none) hy rfl ?_
  intro p e s m args below meth c s₁ B hml hv
  obtain ⟨rfl, hsz, hP, hK, hD0, hE⟩ := hv
  subst hsz
  have hts := atoms_spec (ws := .code y cc maxL (none) :: lw_T) B.pre
  rw [lg_entry_eq]
  exact body p e s m _ below meth c _ ⟨B.exec, B.bytes, hml, ho ▸ findClass_of_methodNamed B.named, fun x hx => hts x (List.mem_cons_of_mem _ hx), hK, fun q h => Or.inr h, hE⟩ B.returns B.notSynchronized (name_of_methodNamed B.named B.method).1 rfl s.heap [] _ hP hD0.self va_S.rf (lv_entry av hlen)
section JC
variable {p : Program} {l : Launch} {e : Env} {R : Room} {s : State} {m : MethodId} {args : Array Value} {below : List Frame} {meth : Method} {c : Code} {cells slots : Nat} {Q : State → Prop} {D : va_G} {A : Nat → Prop} {nL : Nat} {cc : ByteArray} {own : String} {cyI cyZ cyO : ClassId} {w : va_W} {pc : Nat} {lv : List (Nat × Value)} {st : List Value}
theorem j_iret (C : Cx p R s m args c cc nL own D (cyI, cyZ, cyO) A) {Qr : Int32 → va_W → Prop} {v : Int32} {w0 : va_W} {rt : FieldType} (hr : meth.sig.returnType = some rt) (hlocks : meth.locks = false) (hA : A = va_A w0 s.heap.size) (hdg : decode cc pc = .ok (.ireturn, 1)) (hn : narrow rt (.int v) = .int v) (hq : Qr v w) : J p l e R s m args below meth c cells slots (MQ below (va_Qi Qr (Bz D w0 s.heap.size) A) args s cells slots A) D A nL (w) pc (lv) ([.int v]) :=
  fun H locs ls hP hD hS hl => W.zret C.1 C.2.1 hr hn (fun t ht hW => ⟨⟨v, w, rfl, hq, by rw [ht]; exact hP, by rw [← hA]; exact hD⟩, hS.F ht⟩) hS.2.2 hdg hlocks
theorem j_lret (C : Cx p R s m args c cc nL own D (cyI, cyZ, cyO) A) {Qr : Int64 → va_W → Prop} {v : Int64} {w0 : va_W} (hr : meth.sig.returnType = some .long) (hlocks : meth.locks = false) (hA : A = va_A w0 s.heap.size) (hdg : decode cc pc = .ok (.lreturn, 1)) (hq : Qr v w) : J p l e R s m args below meth c cells slots (MQ below (va_Ql Qr (Bz D w0 s.heap.size) A) args s cells slots A) D A nL (w) pc (lv) ([.long v]) :=
  fun H locs ls hP hD hS hl => W.lret C.1 C.2.1 hr (fun t ht hW => ⟨⟨v, w, rfl, hq, by rw [ht]; exact hP, by rw [← hA]; exact hD⟩, hS.F ht⟩) hS.2.2 hdg hlocks
theorem j_vret (C : Cx p R s m args c cc nL own D (cyI, cyZ, cyO) A) {Qr : va_W → Prop} {w0 : va_W} (hr : meth.sig.returnType = none) (hlocks : meth.locks = false) (hA : A = va_A w0 s.heap.size) (hdg : decode cc pc = .ok (.return_, 1)) (hq : Qr w) : J p l e R s m args below meth c cells slots (MQ below (va_Qv Qr (Bz D w0 s.heap.size) A) args s cells slots A) D A nL (w) pc (lv) ([]) :=
  fun H locs ls hP hD hS hl => W.vret C.1 C.2.1 hr (fun t ht hW => ⟨⟨w, rfl, hq, by rw [ht]; exact hP, by rw [← hA]; exact hD⟩, hS.F ht⟩) hS.2.2 hdg hlocks
theorem j_widen {k n : Nat} (h1 : cells ≤ k) (h2 : slots ≤ n) (kk : J p l e R s m args below meth c k n (Q) D A nL (w) pc (lv) (st)) : J p l e R s m args below meth c cells slots (Q) D A nL (w) pc (lv) (st) := fun H locs ls hP hD hS hl => W.widen h1 h2 (kk H locs ls hP hD hS hl)
theorem pz_blind {D : va_G} {cy : ClassId × ClassId × ClassId} {av : List Value} {w : va_W} {sz : Nat} : FrameBlind (Pz D cy av w sz) := fun a U g mk q => by
  obtain ⟨q0, q1, qP, qK, qD, qE⟩ := q
  exact ⟨q0, q1, qP, va_K.moved (u := U) (U := U.calling g mk a) (Vm.Alike.refl U.vm) qK, qD, EC.same (s := U) (U := U.calling g mk a) rfl qE⟩
theorem pz_pre {cy : ClassId × ClassId × ClassId} {H : Heap} {locs : List Loc} {av : List Value} {wc : va_W} (C : Cx p R s m args c cc nL own D cy A) (hS : va_S A s.heap H locs) (hPc : va_P D vwCl wc H) (hDc : va_D A wc) (hFc : ∀ q, va_A wc H.size q → A q) : ∀ U : State, U.heap = H → s.WarmedH U.vm → Pz D cy av wc H.size av.toArray U := fun U hU hW =>
  ⟨rfl, by rw [hU], by rw [hU]; exact hPc, va_K.moved hW.alike C.2.2.2.2.2.1, hDc.weaken (fun _ _ _ _ => trivial), by rw [hU]; exact EC.warm hW (EC.narrow hFc (EC.kept hS.2.1 C.2.2.2.2.2.2.2))⟩
theorem j_cVi (C : Cx p R s m args c cc nL own D (cyI, cyZ, cyO) A) {y' : MethodName} {cc' : ByteArray} {maxL' n index : Nat} {rm' : Room} {As : List Value} {wc wr : va_W} {st' : List Value} {pc' : Nat} {rt : FieldType} {b ci : Nat} {q : vw_C} {fs : List Value} {Qr : Int32 → va_W → Prop} (hM : Ki l y' cc' maxL' rt rm' D (cyI, cyZ, cyO) (.ref b :: As) wc Qr) (hY : Yv y' cc' maxL' (some rt) n) (hlink : Cond.methodLink own index y' ∈ lw_T) (isC isR : List Nat) (hC : isC.map (fun i => w[i]?) = wc.map some) (hnC : va_nd isC = true) (hR : isR.map (fun i => w[i]?) = wr.map some) (hnR : va_nd isR = true) (hdis : ∀ i ∈ isR, i ∉ isC) (hc : vwCl[ci]? = some q) (hcn : q.1 = y'.cls) (he : wc[0]? = some (b, .inr (ci, fs))) (hdg : decode cc pc = .ok (.invokevirtual index, 3)) (hp : pc + 3 = pc') (hst : st' = As.reverse ++ .ref b :: st) (hn : As.length = n) (hcat : (st.map fun v => v.category).sum ≤ 8) (hRm : rm'.frames + 1 ≤ R.frames ∧ 8 + (maxL' + 11) + rm'.locals ≤ R.locals) (hf : cells + rm'.cells ≤ R.cells ∧ slots + rm'.slots ≤ R.slots) (hz : rm'.cells = 0 ∧ rm'.slots = 0) (kk : ∀ (r : Int32) (w1 : va_W), Qr r w1 → J p l e R s m args below meth c cells slots (Q) D A nL (wr ++ w1) pc' (lv) (.int r :: st)) : J p l e R s m args below meth c cells slots (Q) D A nL (w) pc (lv) (st') := by
  subst hp; subst hst
  intro H locs ls hP hD hS hl
  have hPc := hP.sub isC (fm_of_map hC)
  have hDc := hD.sub isC hnC hC
  have hFc := va_free (wc := wc) hD hS C.2.2.2.2.2.2.1 isC hC
  refine va_calli (va_runV (As := As) (rest := st) ⟨C.1, C.2.1, C.2.2.1, C.2.2.2.1, C.2.2.2.2.1⟩ (hM H.size) ⟨callB_of n C.2.2.2.2.1 (T_in hY.1) rfl rfl rfl (C.2.2.2.2.1 _ hY.2.2.2.1) (C.2.2.2.2.1 _ hlink) hY.2.2.2.2 hRm, C.2.2.2.2.1 _ hY.2.1, C.2.2.2.2.1 _ hY.2.2.1⟩ ⟨pz_blind, hcn ▸ va_recv C.2.2.2.2.2.1 hPc hc he, pz_pre C hS hPc hDc hFc⟩ rfl hn hl.1 rfl (lv_room hcat) hdg hf) hS (fun q _ h => hFc q h) hFc (fun r w1 t H1 locs1 ht hvm hw hB hz1 hk1 hS1 => ?_)
  obtain ⟨hP1, hD1⟩ := hB
  rw [ht] at hP1
  obtain ⟨hP2, hD2⟩ := va_join (wr := wr) (w1 := w1) hP hD isC isR hC hR hnR hdis hk1 hFc hP1 hD1
  rw [hz.1, hz.2]
  exact kk r w1 hw H1 locs1 ls hP2 hD2 hS1 hl
theorem j_cSi (C : Cx p R s m args c cc nL own D (cyI, cyZ, cyO) A) {y' : MethodName} {cc' : ByteArray} {maxL' n index : Nat} {rm' : Room} {As : List Value} {wc wr : va_W} {st' : List Value} {pc' : Nat} {rt : FieldType} {Qr : Int32 → va_W → Prop} (hM : Ki l y' cc' maxL' rt rm' D (cyI, cyZ, cyO) As wc Qr) (hY : Ys y' cc' maxL' (some rt) n) (hlink : Cond.methodLink own index y' ∈ lw_T) (isC isR : List Nat) (hC : isC.map (fun i => w[i]?) = wc.map some) (hnC : va_nd isC = true) (hR : isR.map (fun i => w[i]?) = wr.map some) (hnR : va_nd isR = true) (hdis : ∀ i ∈ isR, i ∉ isC) (hdg : decode cc pc = .ok (.invokestatic index, 3)) (hp : pc + 3 = pc') (hst : st' = As.reverse ++ st) (hn : As.length = n) (hcat : (st.map fun v => v.category).sum ≤ 8) (hRm : rm'.frames + 1 ≤ R.frames ∧ 8 + (maxL' + 11) + rm'.locals ≤ R.locals) (hf : cells + rm'.cells ≤ R.cells ∧ slots + rm'.slots ≤ R.slots) (hz : rm'.cells = 0 ∧ rm'.slots = 0) (kk : ∀ (r : Int32) (w1 : va_W), Qr r w1 → J p l e R s m args below meth c cells slots (Q) D A nL (wr ++ w1) pc' (lv) (.int r :: st)) : J p l e R s m args below meth c cells slots (Q) D A nL (w) pc (lv) (st') := by
  subst hp; subst hst
  intro H locs ls hP hD hS hl
  have hPc := hP.sub isC (fm_of_map hC)
  have hDc := hD.sub isC hnC hC
  have hFc := va_free (wc := wc) hD hS C.2.2.2.2.2.2.1 isC hC
  refine va_calli (va_runS (As := As) (rest := st) ⟨C.1, C.2.1, C.2.2.1, C.2.2.2.1, C.2.2.2.2.1⟩ (hM H.size) ⟨callB_of n C.2.2.2.2.1 (T_in hY.1) rfl rfl rfl (C.2.2.2.2.1 _ hY.2.2.1) (C.2.2.2.2.1 _ hlink) hY.2.2.2 hRm, C.2.2.2.2.1 _ hY.2.1⟩ ⟨pz_blind, pz_pre C hS hPc hDc hFc⟩ rfl hn hl.1 rfl (lv_room hcat) hdg hf) hS (fun q _ h => hFc q h) hFc (fun r w1 t H1 locs1 ht hvm hw hB hz1 hk1 hS1 => ?_)
  obtain ⟨hP1, hD1⟩ := hB
  rw [ht] at hP1
  obtain ⟨hP2, hD2⟩ := va_join (wr := wr) (w1 := w1) hP hD isC isR hC hR hnR hdis hk1 hFc hP1 hD1
  rw [hz.1, hz.2]
  exact kk r w1 hw H1 locs1 ls hP2 hD2 hS1 hl
theorem j_cVv (C : Cx p R s m args c cc nL own D (cyI, cyZ, cyO) A) {y' : MethodName} {cc' : ByteArray} {maxL' n index : Nat} {rm' : Room} {As : List Value} {wc wr : va_W} {st' : List Value} {pc' : Nat} {b ci : Nat} {q : vw_C} {fs : List Value} {Qr : va_W → Prop} (hM : Kv l y' cc' maxL' rm' D (cyI, cyZ, cyO) (.ref b :: As) wc Qr) (hY : Yv y' cc' maxL' (none) n) (hlink : Cond.methodLink own index y' ∈ lw_T) (isC isR : List Nat) (hC : isC.map (fun i => w[i]?) = wc.map some) (hnC : va_nd isC = true) (hR : isR.map (fun i => w[i]?) = wr.map some) (hnR : va_nd isR = true) (hdis : ∀ i ∈ isR, i ∉ isC) (hc : vwCl[ci]? = some q) (hcn : q.1 = y'.cls) (he : wc[0]? = some (b, .inr (ci, fs))) (hdg : decode cc pc = .ok (.invokevirtual index, 3)) (hp : pc + 3 = pc') (hst : st' = As.reverse ++ .ref b :: st) (hn : As.length = n) (hcat : (st.map fun v => v.category).sum ≤ 8) (hRm : rm'.frames + 1 ≤ R.frames ∧ 8 + (maxL' + 11) + rm'.locals ≤ R.locals) (hf : cells + rm'.cells ≤ R.cells ∧ slots + rm'.slots ≤ R.slots) (hz : rm'.cells = 0 ∧ rm'.slots = 0) (kk : ∀ (w1 : va_W), Qr w1 → J p l e R s m args below meth c cells slots (Q) D A nL (wr ++ w1) pc' (lv) (st)) : J p l e R s m args below meth c cells slots (Q) D A nL (w) pc (lv) (st') := by
  subst hp; subst hst
  intro H locs ls hP hD hS hl
  have hPc := hP.sub isC (fm_of_map hC)
  have hDc := hD.sub isC hnC hC
  have hFc := va_free (wc := wc) hD hS C.2.2.2.2.2.2.1 isC hC
  refine va_callv (va_runV (As := As) (rest := st) ⟨C.1, C.2.1, C.2.2.1, C.2.2.2.1, C.2.2.2.2.1⟩ (hM H.size) ⟨callB_of n C.2.2.2.2.1 (T_in hY.1) rfl rfl rfl (C.2.2.2.2.1 _ hY.2.2.2.1) (C.2.2.2.2.1 _ hlink) hY.2.2.2.2 hRm, C.2.2.2.2.1 _ hY.2.1, C.2.2.2.2.1 _ hY.2.2.1⟩ ⟨pz_blind, hcn ▸ va_recv C.2.2.2.2.2.1 hPc hc he, pz_pre C hS hPc hDc hFc⟩ rfl hn hl.1 rfl (lv_room hcat) hdg hf) hS (fun q _ h => hFc q h) hFc (fun w1 t H1 locs1 ht hvm hw hB hz1 hk1 hS1 => ?_)
  obtain ⟨hP1, hD1⟩ := hB
  rw [ht] at hP1
  obtain ⟨hP2, hD2⟩ := va_join (wr := wr) (w1 := w1) hP hD isC isR hC hR hnR hdis hk1 hFc hP1 hD1
  rw [hz.1, hz.2]
  exact kk w1 hw H1 locs1 ls hP2 hD2 hS1 hl
theorem j_cSv (C : Cx p R s m args c cc nL own D (cyI, cyZ, cyO) A) {y' : MethodName} {cc' : ByteArray} {maxL' n index : Nat} {rm' : Room} {As : List Value} {wc wr : va_W} {st' : List Value} {pc' : Nat} {Qr : va_W → Prop} (hM : Kv l y' cc' maxL' rm' D (cyI, cyZ, cyO) As wc Qr) (hY : Ys y' cc' maxL' (none) n) (hlink : Cond.methodLink own index y' ∈ lw_T) (isC isR : List Nat) (hC : isC.map (fun i => w[i]?) = wc.map some) (hnC : va_nd isC = true) (hR : isR.map (fun i => w[i]?) = wr.map some) (hnR : va_nd isR = true) (hdis : ∀ i ∈ isR, i ∉ isC) (hdg : decode cc pc = .ok (.invokestatic index, 3)) (hp : pc + 3 = pc') (hst : st' = As.reverse ++ st) (hn : As.length = n) (hcat : (st.map fun v => v.category).sum ≤ 8) (hRm : rm'.frames + 1 ≤ R.frames ∧ 8 + (maxL' + 11) + rm'.locals ≤ R.locals) (hf : cells + rm'.cells ≤ R.cells ∧ slots + rm'.slots ≤ R.slots) (hz : rm'.cells = 0 ∧ rm'.slots = 0) (kk : ∀ (w1 : va_W), Qr w1 → J p l e R s m args below meth c cells slots (Q) D A nL (wr ++ w1) pc' (lv) (st)) : J p l e R s m args below meth c cells slots (Q) D A nL (w) pc (lv) (st') := by
  subst hp; subst hst
  intro H locs ls hP hD hS hl
  have hPc := hP.sub isC (fm_of_map hC)
  have hDc := hD.sub isC hnC hC
  have hFc := va_free (wc := wc) hD hS C.2.2.2.2.2.2.1 isC hC
  refine va_callv (va_runS (As := As) (rest := st) ⟨C.1, C.2.1, C.2.2.1, C.2.2.2.1, C.2.2.2.2.1⟩ (hM H.size) ⟨callB_of n C.2.2.2.2.1 (T_in hY.1) rfl rfl rfl (C.2.2.2.2.1 _ hY.2.2.1) (C.2.2.2.2.1 _ hlink) hY.2.2.2 hRm, C.2.2.2.2.1 _ hY.2.1⟩ ⟨pz_blind, pz_pre C hS hPc hDc hFc⟩ rfl hn hl.1 rfl (lv_room hcat) hdg hf) hS (fun q _ h => hFc q h) hFc (fun w1 t H1 locs1 ht hvm hw hB hz1 hk1 hS1 => ?_)
  obtain ⟨hP1, hD1⟩ := hB
  rw [ht] at hP1
  obtain ⟨hP2, hD2⟩ := va_join (wr := wr) (w1 := w1) hP hD isC isR hC hR hnR hdis hk1 hFc hP1 hD1
  rw [hz.1, hz.2]
  exact kk w1 hw H1 locs1 ls hP2 hD2 hS1 hl
theorem j_cI (C : Cx p R s m args c cc nL own D (cyI, cyZ, cyO) A) {y' : MethodName} {cc' : ByteArray} {maxL' n index : Nat} {rm' : Room} {As : List Value} {wc wr : va_W} {st' : List Value} {pc' : Nat} {b : Nat} {Qr : va_W → Prop} (hM : Kv l y' cc' maxL' rm' D (cyI, cyZ, cyO) (.ref b :: As) wc Qr) (hY : Yn y' cc' maxL' n) (hlink : Cond.methodLink own index y' ∈ lw_T) (isC isR : List Nat) (hC : isC.map (fun i => w[i]?) = wc.map some) (hnC : va_nd isC = true) (hR : isR.map (fun i => w[i]?) = wr.map some) (hnR : va_nd isR = true) (hdis : ∀ i ∈ isR, i ∉ isC) (hdg : decode cc pc = .ok (.invokespecial index, 3)) (hp : pc + 3 = pc') (hst : st' = As.reverse ++ .ref b :: st) (hn : As.length = n) (hcat : (st.map fun v => v.category).sum ≤ 8) (hRm : rm'.frames + 1 ≤ R.frames ∧ 8 + (maxL' + 11) + rm'.locals ≤ R.locals) (hf : cells + rm'.cells ≤ R.cells ∧ slots + rm'.slots ≤ R.slots) (kk : ∀ (w1 : va_W), Qr w1 → J p l e R s m args below meth c (cells + rm'.cells) (slots + rm'.slots) (Q) D A nL (wr ++ w1) pc' (lv) (st)) : J p l e R s m args below meth c cells slots (Q) D A nL (w) pc (lv) (st') := by
  subst hp; subst hst
  intro H locs ls hP hD hS hl
  have hPc := hP.sub isC (fm_of_map hC)
  have hDc := hD.sub isC hnC hC
  have hFc := va_free (wc := wc) hD hS C.2.2.2.2.2.2.1 isC hC
  refine va_callv (va_runI (As := As) (rest := st) ⟨C.1, C.2.1, C.2.2.1, C.2.2.2.1, C.2.2.2.2.1⟩ (hM H.size) ⟨callB_of n C.2.2.2.2.1 (T_in hY.1) rfl rfl rfl (C.2.2.2.2.1 _ hY.2.2.1) (C.2.2.2.2.1 _ hlink) hY.2.2.2.2 hRm, hY.2.2.2.1, C.2.2.2.2.1 _ hY.2.1⟩ ⟨pz_blind, pz_pre C hS hPc hDc hFc⟩ rfl hn hl.1 rfl (lv_room hcat) hdg hf) hS (fun q _ h => hFc q h) hFc (fun w1 t H1 locs1 ht hvm hw hB hz1 hk1 hS1 => ?_)
  obtain ⟨hP1, hD1⟩ := hB
  rw [ht] at hP1
  obtain ⟨hP2, hD2⟩ := va_join (wr := wr) (w1 := w1) hP hD isC isR hC hR hnR hdis hk1 hFc hP1 hD1
  exact kk w1 hw H1 locs1 ls hP2 hD2 hS1 hl
theorem j_cN (C : Cx p R s m args c cc nL own D (cyI, cyZ, cyO) A) {y' : MethodName} {cc' : ByteArray} {maxL' n index : Nat} {rm' : Room} {As : List Value} {wc wr : va_W} {st' : List Value} {pc' : Nat} {b : Nat} {host : String} {Qr : va_W → Prop} (hM : Kv l y' cc' maxL' rm' D (cyI, cyZ, cyO) (.ref b :: As) wc Qr) (hY : Yn y' cc' maxL' n) (hlink : va_Nw (.methodLinkNest own index y' host) s) (isC isR : List Nat) (hC : isC.map (fun i => w[i]?) = wc.map some) (hnC : va_nd isC = true) (hR : isR.map (fun i => w[i]?) = wr.map some) (hnR : va_nd isR = true) (hdis : ∀ i ∈ isR, i ∉ isC) (hdg : decode cc pc = .ok (.invokespecial index, 3)) (hp : pc + 3 = pc') (hst : st' = As.reverse ++ .ref b :: st) (hn : As.length = n) (hcat : (st.map fun v => v.category).sum ≤ 8) (hRm : rm'.frames + 1 ≤ R.frames ∧ 8 + (maxL' + 11) + rm'.locals ≤ R.locals) (hf : cells + rm'.cells ≤ R.cells ∧ slots + rm'.slots ≤ R.slots) (kk : ∀ (w1 : va_W), Qr w1 → J p l e R s m args below meth c (cells + rm'.cells) (slots + rm'.slots) (Q) D A nL (wr ++ w1) pc' (lv) (st)) : J p l e R s m args below meth c cells slots (Q) D A nL (w) pc (lv) (st') := by
  subst hp; subst hst
  intro H locs ls hP hD hS hl
  have hPc := hP.sub isC (fm_of_map hC)
  have hDc := hD.sub isC hnC hC
  have hFc := va_free (wc := wc) hD hS C.2.2.2.2.2.2.1 isC hC
  refine va_callv (va_runIN (As := As) (rest := st) (host := host) ⟨C.1, C.2.1, C.2.2.1, C.2.2.2.1, C.2.2.2.2.1⟩ (hM H.size) ⟨va_cnB n C.2.2.2.2.1 (T_in hY.1) rfl rfl rfl hlink (C.2.2.2.2.1 _ hY.2.2.1) hY.2.2.2.2 hRm, hY.2.2.2.1, C.2.2.2.2.1 _ hY.2.1⟩ ⟨pz_blind, pz_pre C hS hPc hDc hFc⟩ rfl hn hl.1 rfl (lv_room hcat) hdg hf) hS (fun q _ h => hFc q h) hFc (fun w1 t H1 locs1 ht hvm hw hB hz1 hk1 hS1 => ?_)
  obtain ⟨hP1, hD1⟩ := hB
  rw [ht] at hP1
  obtain ⟨hP2, hD2⟩ := va_join (wr := wr) (w1 := w1) hP hD isC isR hC hR hnR hdis hk1 hFc hP1 hD1
  exact kk w1 hw H1 locs1 ls hP2 hD2 hS1 hl
theorem j_cSl (C : Cx p R s m args c cc nL own D (cyI, cyZ, cyO) A) {y' : MethodName} {cc' : ByteArray} {maxL' n index : Nat} {rm' : Room} {As : List Value} {wc wr : va_W} {st' : List Value} {pc' : Nat} {rt : FieldType} {Qr : Int64 → va_W → Prop} (hM : Kl l y' cc' maxL' rt rm' D (cyI, cyZ, cyO) As wc Qr) (hY : Ys y' cc' maxL' (some rt) n) (hlink : Cond.methodLink own index y' ∈ lw_T) (isC isR : List Nat) (hC : isC.map (fun i => w[i]?) = wc.map some) (hnC : va_nd isC = true) (hR : isR.map (fun i => w[i]?) = wr.map some) (hnR : va_nd isR = true) (hdis : ∀ i ∈ isR, i ∉ isC) (hdg : decode cc pc = .ok (.invokestatic index, 3)) (hp : pc + 3 = pc') (hst : st' = As.reverse ++ st) (hn : As.length = n) (hcat : (st.map fun v => v.category).sum ≤ 8) (hRm : rm'.frames + 1 ≤ R.frames ∧ 8 + (maxL' + 11) + rm'.locals ≤ R.locals) (hf : cells + rm'.cells ≤ R.cells ∧ slots + rm'.slots ≤ R.slots) (hz : rm'.cells = 0 ∧ rm'.slots = 0) (kk : ∀ (r : Int64) (w1 : va_W), Qr r w1 → J p l e R s m args below meth c cells slots (Q) D A nL (wr ++ w1) pc' (lv) (.long r :: st)) : J p l e R s m args below meth c cells slots (Q) D A nL (w) pc (lv) (st') := by
  subst hp; subst hst
  intro H locs ls hP hD hS hl
  have hPc := hP.sub isC (fm_of_map hC)
  have hDc := hD.sub isC hnC hC
  have hFc := va_free (wc := wc) hD hS C.2.2.2.2.2.2.1 isC hC
  refine va_calll (va_runS (As := As) (rest := st) ⟨C.1, C.2.1, C.2.2.1, C.2.2.2.1, C.2.2.2.2.1⟩ (hM H.size) ⟨callB_of n C.2.2.2.2.1 (T_in hY.1) rfl rfl rfl (C.2.2.2.2.1 _ hY.2.2.1) (C.2.2.2.2.1 _ hlink) hY.2.2.2 hRm, C.2.2.2.2.1 _ hY.2.1⟩ ⟨pz_blind, pz_pre C hS hPc hDc hFc⟩ rfl hn hl.1 rfl (lv_room hcat) hdg hf) hS (fun q _ h => hFc q h) hFc (fun r w1 t H1 locs1 ht hvm hw hB hz1 hk1 hS1 => ?_)
  obtain ⟨hP1, hD1⟩ := hB
  rw [ht] at hP1
  obtain ⟨hP2, hD2⟩ := va_join (wr := wr) (w1 := w1) hP hD isC isR hC hR hnR hdis hk1 hFc hP1 hD1
  rw [hz.1, hz.2]
  exact kk r w1 hw H1 locs1 ls hP2 hD2 hS1 hl
theorem j_obj (C : Cx p R s m args c cc nL own D (cyI, cyZ, cyO) A) {a index : Nat} {pc' : Nat} (hlink : Cond.methodLink own index objectInit ∈ lw_T) (hin : Cond.instanceMethod objectInit ∈ lw_T) (hco : Cond.code objectInit ⟨#[0xb1]⟩ 1 none ∈ lw_T) (hdg : decode cc pc = .ok (.invokespecial index, 3)) (hp : pc + 3 = pc') (hf : 1 ≤ R.frames) (hlo : (st.map fun v => v.category).sum + 12 ≤ R.locals) (k : J p l e R s m args below meth c cells slots (Q) D A nL (w) pc' (lv) (st)) : J p l e R s m args below meth c cells slots (Q) D A nL (w) pc (lv) (.ref a :: st) := by
  subst hp; exact fun H locs ls hP hD hS hl => W.objInit (g := F0 m pc ls (.ref a :: st)) C.1 C.2.1 C.2.2.2.1 (C.2.2.2.2.1 _ hlink) (C.2.2.2.2.1 _ hin) (C.2.2.2.2.1 _ hco) rfl (by rw [C.2.2.1]; exact hl.1) rfl hdg hf (by show 2 * 0 + _ + 12 ≤ _; omega) (k H locs ls hP hD hS hl)
theorem j_new (C : Cx p R s m args c cc nL own D (cyI, cyZ, cyO) A) {ci N index : Nat} {CN : String} {T : u_T} {ty : Nat → FieldType} {fs : List Value} {pc' : Nat} (hk0 : Ko ci CN T N ty) (hcl : Cond.classLink own index CN ∈ lw_T) (hins : Cond.instantiable CN N ∈ lw_T) (hini : Cond.initialized CN ∈ lw_T) (hfs : ∀ j, j < N → defaultValue (ty j) = vp_V fs j) (hcells : cells + 1 ≤ R.cells) (hslots : slots + N ≤ R.slots) (hdg : decode cc pc = .ok (.new index, 3)) (hp : pc + 3 = pc') (k : ∀ q : Nat, J p l e R s m args below meth c (cells + 1) (slots + N) (Q) D A nL (w ++ [(q, .inr (ci, fs))]) pc' (lv) (.ref q :: st)) : J p l e R s m args below meth c cells slots (Q) D A nL (w) pc (lv) (st) := by
  subst hp; exact fun H locs ls hP hD hS hl => va_new C.1 C.2.1 C.2.2.2.2.1 hk0.1 ty hk0.2.1 C.2.2.2.1 (C.2.2.2.2.1 _ hcl) (C.2.2.2.2.1 _ hins) (C.2.2.2.2.1 _ hini) C.2.2.2.2.2.1 hP hD hS C.2.2.2.2.2.2.1 hk0.2.2.2 hfs hcells hslots hdg (fun q H1 hP1 hD1 hS1 => k q H1 locs ls hP1 hD1 hS1 hl)
theorem j_newI (C : Cx p R s m args c cc nL own D (cyI, cyZ, cyO) A) {n : Nat} {pc' : Nat} (harr : Cond.arrayClass .int ∈ lw_T) (hn : n ≤ 100000) (hcells : cells + 1 ≤ R.cells) (hslots : slots + n ≤ R.slots) (hdg : decode cc pc = .ok (.newarray .int, 2)) (hp : pc + 2 = pc') (k : ∀ q : Nat, J p l e R s m args below meth c (cells + 1) (slots + n) (Q) D A nL (w ++ [(q, .inl (cyI, n, .inl (nA (fun _ => 0))))]) pc' (lv) (.ref q :: st)) : J p l e R s m args below meth c cells slots (Q) D A nL (w) pc (lv) (.int (nI n) :: st) := by
  subst hp
  intro H locs ls hP hD hS hl
  refine va_newa (atype := .int) (ty := .int) (N' := n) (a0 := (n, .inl (nA (fun _ => 0)))) C.1 C.2.1 (C.2.2.2.2.1 _ harr) rfl C.2.2.2.2.2.1 hP hD hS C.2.2.2.2.2.2.1 (fun cA => rfl) (nI_pos (by omega)) (nI_clamp (by omega)) (by simp only [componentBytes]; omega) hcells hslots hdg (fun q cA H1 hK1 hP1 hD1 hS1 => ?_)
  have e1 := (hK1.2 3 (cA, .int) rfl).2
  have e2 := (C.2.2.2.2.2.1.2 0 (cyI, .int) rfl).2
  have e3 : cA = cyI := Option.some.inj (e1.symm.trans e2)
  subst e3
  exact k q H1 locs ls hP1 hD1 hS1 hl
theorem j_newZ (C : Cx p R s m args c cc nL own D (cyI, cyZ, cyO) A) {n : Nat} {pc' : Nat} (harr : Cond.arrayClass .boolean ∈ lw_T) (hn : n ≤ 100000) (hcells : cells + 1 ≤ R.cells) (hslots : slots + n ≤ R.slots) (hdg : decode cc pc = .ok (.newarray .boolean, 2)) (hp : pc + 2 = pc') (k : ∀ q : Nat, J p l e R s m args below meth c (cells + 1) (slots + n) (Q) D A nL (w ++ [(q, .inl (cyZ, n, .inl (bA (fun _ => false))))]) pc' (lv) (.ref q :: st)) : J p l e R s m args below meth c cells slots (Q) D A nL (w) pc (lv) (.int (nI n) :: st) := by
  subst hp
  intro H locs ls hP hD hS hl
  refine va_newa (atype := .boolean) (ty := .boolean) (N' := n) (a0 := (n, .inl (bA (fun _ => false)))) C.1 C.2.1 (C.2.2.2.2.1 _ harr) rfl C.2.2.2.2.2.1 hP hD hS C.2.2.2.2.2.2.1 (fun cA => rfl) (nI_pos (by omega)) (nI_clamp (by omega)) (by simp only [componentBytes]; omega) hcells hslots hdg (fun q cA H1 hK1 hP1 hD1 hS1 => ?_)
  have e1 := (hK1.2 3 (cA, .boolean) rfl).2
  have e2 := (C.2.2.2.2.2.1.2 1 (cyZ, .boolean) rfl).2
  have e3 : cA = cyZ := Option.some.inj (e1.symm.trans e2)
  subst e3
  exact k q H1 locs ls hP1 hD1 hS1 hl
theorem j_loop1 {A1 : Type} (w : A1 → va_W) (lv : A1 → List (Nat × Value)) (st : A1 → List Value) (I : A1 → Prop) (μ : A1 → Nat) (body : ∀ (a1 : A1), I a1 → (∀ (b1 : A1), I b1 → μ b1 < μ a1 → J p l e R s m args below meth c cells slots (Q) D A nL (w b1) pc (lv b1) (st b1)) → J p l e R s m args below meth c cells slots (Q) D A nL (w a1) pc (lv a1) (st a1)) (a1 : A1) (h : I a1) : J p l e R s m args below meth c cells slots (Q) D A nL (w a1) pc (lv a1) (st a1) := by
  have key : ∀ (n : Nat) (a1 : A1), I a1 → μ a1 < n → J p l e R s m args below meth c cells slots (Q) D A nL (w a1) pc (lv a1) (st a1) := by
    intro n
    induction n with
    | zero => intro a1 _ h; exact absurd h (Nat.not_lt_zero _)
    | succ n ih => exact fun a1 hI hm => body a1 hI (fun b1 hb hl => ih b1 hb (Nat.lt_of_lt_of_le hl (Nat.le_of_lt_succ hm)))
  exact key _ a1 h (Nat.lt_succ_self _)
theorem j_cut1 {A1 : Type} {w0 : va_W} {pc0 : Nat} {lv0 : List (Nat × Value)} {st0 : List Value} (pc : Nat) (w : A1 → va_W) (lv : A1 → List (Nat × Value)) (st : A1 → List Value) (I : A1 → Prop) (body : ∀ (a1 : A1), I a1 → J p l e R s m args below meth c cells slots (Q) D A nL (w a1) pc (lv a1) (st a1)) (k : (∀ (a1 : A1), I a1 → J p l e R s m args below meth c cells slots (Q) D A nL (w a1) pc (lv a1) (st a1)) → J p l e R s m args below meth c cells slots (Q) D A nL (w0) pc0 (lv0) (st0)) : J p l e R s m args below meth c cells slots (Q) D A nL (w0) pc0 (lv0) (st0) := k body
theorem j_loop2 {A1 A2 : Type} (w : A1 → A2 → va_W) (lv : A1 → A2 → List (Nat × Value)) (st : A1 → A2 → List Value) (I : A1 → A2 → Prop) (μ : A1 → A2 → Nat) (body : ∀ (a1 : A1) (a2 : A2), I a1 a2 → (∀ (b1 : A1) (b2 : A2), I b1 b2 → μ b1 b2 < μ a1 a2 → J p l e R s m args below meth c cells slots (Q) D A nL (w b1 b2) pc (lv b1 b2) (st b1 b2)) → J p l e R s m args below meth c cells slots (Q) D A nL (w a1 a2) pc (lv a1 a2) (st a1 a2)) (a1 : A1) (a2 : A2) (h : I a1 a2) : J p l e R s m args below meth c cells slots (Q) D A nL (w a1 a2) pc (lv a1 a2) (st a1 a2) := by
  have key : ∀ (n : Nat) (a1 : A1) (a2 : A2), I a1 a2 → μ a1 a2 < n → J p l e R s m args below meth c cells slots (Q) D A nL (w a1 a2) pc (lv a1 a2) (st a1 a2) := by
    intro n
    induction n with
    | zero => intro a1 a2 _ h; exact absurd h (Nat.not_lt_zero _)
    | succ n ih => exact fun a1 a2 hI hm => body a1 a2 hI (fun b1 b2 hb hl => ih b1 b2 hb (Nat.lt_of_lt_of_le hl (Nat.le_of_lt_succ hm)))
  exact key _ a1 a2 h (Nat.lt_succ_self _)
theorem j_cut2 {A1 A2 : Type} {w0 : va_W} {pc0 : Nat} {lv0 : List (Nat × Value)} {st0 : List Value} (pc : Nat) (w : A1 → A2 → va_W) (lv : A1 → A2 → List (Nat × Value)) (st : A1 → A2 → List Value) (I : A1 → A2 → Prop) (body : ∀ (a1 : A1) (a2 : A2), I a1 a2 → J p l e R s m args below meth c cells slots (Q) D A nL (w a1 a2) pc (lv a1 a2) (st a1 a2)) (k : (∀ (a1 : A1) (a2 : A2), I a1 a2 → J p l e R s m args below meth c cells slots (Q) D A nL (w a1 a2) pc (lv a1 a2) (st a1 a2)) → J p l e R s m args below meth c cells slots (Q) D A nL (w0) pc0 (lv0) (st0)) : J p l e R s m args below meth c cells slots (Q) D A nL (w0) pc0 (lv0) (st0) := k body
theorem j_loop3 {A1 A2 A3 : Type} (w : A1 → A2 → A3 → va_W) (lv : A1 → A2 → A3 → List (Nat × Value)) (st : A1 → A2 → A3 → List Value) (I : A1 → A2 → A3 → Prop) (μ : A1 → A2 → A3 → Nat) (body : ∀ (a1 : A1) (a2 : A2) (a3 : A3), I a1 a2 a3 → (∀ (b1 : A1) (b2 : A2) (b3 : A3), I b1 b2 b3 → μ b1 b2 b3 < μ a1 a2 a3 → J p l e R s m args below meth c cells slots (Q) D A nL (w b1 b2 b3) pc (lv b1 b2 b3) (st b1 b2 b3)) → J p l e R s m args below meth c cells slots (Q) D A nL (w a1 a2 a3) pc (lv a1 a2 a3) (st a1 a2 a3)) (a1 : A1) (a2 : A2) (a3 : A3) (h : I a1 a2 a3) : J p l e R s m args below meth c cells slots (Q) D A nL (w a1 a2 a3) pc (lv a1 a2 a3) (st a1 a2 a3) := by
  have key : ∀ (n : Nat) (a1 : A1) (a2 : A2) (a3 : A3), I a1 a2 a3 → μ a1 a2 a3 < n → J p l e R s m args below meth c cells slots (Q) D A nL (w a1 a2 a3) pc (lv a1 a2 a3) (st a1 a2 a3) := by
    intro n
    induction n with
    | zero => intro a1 a2 a3 _ h; exact absurd h (Nat.not_lt_zero _)
    | succ n ih => exact fun a1 a2 a3 hI hm => body a1 a2 a3 hI (fun b1 b2 b3 hb hl => ih b1 b2 b3 hb (Nat.lt_of_lt_of_le hl (Nat.le_of_lt_succ hm)))
  exact key _ a1 a2 a3 h (Nat.lt_succ_self _)
theorem j_cut3 {A1 A2 A3 : Type} {w0 : va_W} {pc0 : Nat} {lv0 : List (Nat × Value)} {st0 : List Value} (pc : Nat) (w : A1 → A2 → A3 → va_W) (lv : A1 → A2 → A3 → List (Nat × Value)) (st : A1 → A2 → A3 → List Value) (I : A1 → A2 → A3 → Prop) (body : ∀ (a1 : A1) (a2 : A2) (a3 : A3), I a1 a2 a3 → J p l e R s m args below meth c cells slots (Q) D A nL (w a1 a2 a3) pc (lv a1 a2 a3) (st a1 a2 a3)) (k : (∀ (a1 : A1) (a2 : A2) (a3 : A3), I a1 a2 a3 → J p l e R s m args below meth c cells slots (Q) D A nL (w a1 a2 a3) pc (lv a1 a2 a3) (st a1 a2 a3)) → J p l e R s m args below meth c cells slots (Q) D A nL (w0) pc0 (lv0) (st0)) : J p l e R s m args below meth c cells slots (Q) D A nL (w0) pc0 (lv0) (st0) := k body
theorem j_loop4 {A1 A2 A3 A4 : Type} (w : A1 → A2 → A3 → A4 → va_W) (lv : A1 → A2 → A3 → A4 → List (Nat × Value)) (st : A1 → A2 → A3 → A4 → List Value) (I : A1 → A2 → A3 → A4 → Prop) (μ : A1 → A2 → A3 → A4 → Nat) (body : ∀ (a1 : A1) (a2 : A2) (a3 : A3) (a4 : A4), I a1 a2 a3 a4 → (∀ (b1 : A1) (b2 : A2) (b3 : A3) (b4 : A4), I b1 b2 b3 b4 → μ b1 b2 b3 b4 < μ a1 a2 a3 a4 → J p l e R s m args below meth c cells slots (Q) D A nL (w b1 b2 b3 b4) pc (lv b1 b2 b3 b4) (st b1 b2 b3 b4)) → J p l e R s m args below meth c cells slots (Q) D A nL (w a1 a2 a3 a4) pc (lv a1 a2 a3 a4) (st a1 a2 a3 a4)) (a1 : A1) (a2 : A2) (a3 : A3) (a4 : A4) (h : I a1 a2 a3 a4) : J p l e R s m args below meth c cells slots (Q) D A nL (w a1 a2 a3 a4) pc (lv a1 a2 a3 a4) (st a1 a2 a3 a4) := by
  have key : ∀ (n : Nat) (a1 : A1) (a2 : A2) (a3 : A3) (a4 : A4), I a1 a2 a3 a4 → μ a1 a2 a3 a4 < n → J p l e R s m args below meth c cells slots (Q) D A nL (w a1 a2 a3 a4) pc (lv a1 a2 a3 a4) (st a1 a2 a3 a4) := by
    intro n
    induction n with
    | zero => intro a1 a2 a3 a4 _ h; exact absurd h (Nat.not_lt_zero _)
    | succ n ih => exact fun a1 a2 a3 a4 hI hm => body a1 a2 a3 a4 hI (fun b1 b2 b3 b4 hb hl => ih b1 b2 b3 b4 hb (Nat.lt_of_lt_of_le hl (Nat.le_of_lt_succ hm)))
  exact key _ a1 a2 a3 a4 h (Nat.lt_succ_self _)
theorem j_cut4 {A1 A2 A3 A4 : Type} {w0 : va_W} {pc0 : Nat} {lv0 : List (Nat × Value)} {st0 : List Value} (pc : Nat) (w : A1 → A2 → A3 → A4 → va_W) (lv : A1 → A2 → A3 → A4 → List (Nat × Value)) (st : A1 → A2 → A3 → A4 → List Value) (I : A1 → A2 → A3 → A4 → Prop) (body : ∀ (a1 : A1) (a2 : A2) (a3 : A3) (a4 : A4), I a1 a2 a3 a4 → J p l e R s m args below meth c cells slots (Q) D A nL (w a1 a2 a3 a4) pc (lv a1 a2 a3 a4) (st a1 a2 a3 a4)) (k : (∀ (a1 : A1) (a2 : A2) (a3 : A3) (a4 : A4), I a1 a2 a3 a4 → J p l e R s m args below meth c cells slots (Q) D A nL (w a1 a2 a3 a4) pc (lv a1 a2 a3 a4) (st a1 a2 a3 a4)) → J p l e R s m args below meth c cells slots (Q) D A nL (w0) pc0 (lv0) (st0)) : J p l e R s m args below meth c cells slots (Q) D A nL (w0) pc0 (lv0) (st0) := k body
theorem j_loop5 {A1 A2 A3 A4 A5 : Type} (w : A1 → A2 → A3 → A4 → A5 → va_W) (lv : A1 → A2 → A3 → A4 → A5 → List (Nat × Value)) (st : A1 → A2 → A3 → A4 → A5 → List Value) (I : A1 → A2 → A3 → A4 → A5 → Prop) (μ : A1 → A2 → A3 → A4 → A5 → Nat) (body : ∀ (a1 : A1) (a2 : A2) (a3 : A3) (a4 : A4) (a5 : A5), I a1 a2 a3 a4 a5 → (∀ (b1 : A1) (b2 : A2) (b3 : A3) (b4 : A4) (b5 : A5), I b1 b2 b3 b4 b5 → μ b1 b2 b3 b4 b5 < μ a1 a2 a3 a4 a5 → J p l e R s m args below meth c cells slots (Q) D A nL (w b1 b2 b3 b4 b5) pc (lv b1 b2 b3 b4 b5) (st b1 b2 b3 b4 b5)) → J p l e R s m args below meth c cells slots (Q) D A nL (w a1 a2 a3 a4 a5) pc (lv a1 a2 a3 a4 a5) (st a1 a2 a3 a4 a5)) (a1 : A1) (a2 : A2) (a3 : A3) (a4 : A4) (a5 : A5) (h : I a1 a2 a3 a4 a5) : J p l e R s m args below meth c cells slots (Q) D A nL (w a1 a2 a3 a4 a5) pc (lv a1 a2 a3 a4 a5) (st a1 a2 a3 a4 a5) := by
  have key : ∀ (n : Nat) (a1 : A1) (a2 : A2) (a3 : A3) (a4 : A4) (a5 : A5), I a1 a2 a3 a4 a5 → μ a1 a2 a3 a4 a5 < n → J p l e R s m args below meth c cells slots (Q) D A nL (w a1 a2 a3 a4 a5) pc (lv a1 a2 a3 a4 a5) (st a1 a2 a3 a4 a5) := by
    intro n
    induction n with
    | zero => intro a1 a2 a3 a4 a5 _ h; exact absurd h (Nat.not_lt_zero _)
    | succ n ih => exact fun a1 a2 a3 a4 a5 hI hm => body a1 a2 a3 a4 a5 hI (fun b1 b2 b3 b4 b5 hb hl => ih b1 b2 b3 b4 b5 hb (Nat.lt_of_lt_of_le hl (Nat.le_of_lt_succ hm)))
  exact key _ a1 a2 a3 a4 a5 h (Nat.lt_succ_self _)
theorem j_cut5 {A1 A2 A3 A4 A5 : Type} {w0 : va_W} {pc0 : Nat} {lv0 : List (Nat × Value)} {st0 : List Value} (pc : Nat) (w : A1 → A2 → A3 → A4 → A5 → va_W) (lv : A1 → A2 → A3 → A4 → A5 → List (Nat × Value)) (st : A1 → A2 → A3 → A4 → A5 → List Value) (I : A1 → A2 → A3 → A4 → A5 → Prop) (body : ∀ (a1 : A1) (a2 : A2) (a3 : A3) (a4 : A4) (a5 : A5), I a1 a2 a3 a4 a5 → J p l e R s m args below meth c cells slots (Q) D A nL (w a1 a2 a3 a4 a5) pc (lv a1 a2 a3 a4 a5) (st a1 a2 a3 a4 a5)) (k : (∀ (a1 : A1) (a2 : A2) (a3 : A3) (a4 : A4) (a5 : A5), I a1 a2 a3 a4 a5 → J p l e R s m args below meth c cells slots (Q) D A nL (w a1 a2 a3 a4 a5) pc (lv a1 a2 a3 a4 a5) (st a1 a2 a3 a4 a5)) → J p l e R s m args below meth c cells slots (Q) D A nL (w0) pc0 (lv0) (st0)) : J p l e R s m args below meth c cells slots (Q) D A nL (w0) pc0 (lv0) (st0) := k body
theorem j_loop6 {A1 A2 A3 A4 A5 A6 : Type} (w : A1 → A2 → A3 → A4 → A5 → A6 → va_W) (lv : A1 → A2 → A3 → A4 → A5 → A6 → List (Nat × Value)) (st : A1 → A2 → A3 → A4 → A5 → A6 → List Value) (I : A1 → A2 → A3 → A4 → A5 → A6 → Prop) (μ : A1 → A2 → A3 → A4 → A5 → A6 → Nat) (body : ∀ (a1 : A1) (a2 : A2) (a3 : A3) (a4 : A4) (a5 : A5) (a6 : A6), I a1 a2 a3 a4 a5 a6 → (∀ (b1 : A1) (b2 : A2) (b3 : A3) (b4 : A4) (b5 : A5) (b6 : A6), I b1 b2 b3 b4 b5 b6 → μ b1 b2 b3 b4 b5 b6 < μ a1 a2 a3 a4 a5 a6 → J p l e R s m args below meth c cells slots (Q) D A nL (w b1 b2 b3 b4 b5 b6) pc (lv b1 b2 b3 b4 b5 b6) (st b1 b2 b3 b4 b5 b6)) → J p l e R s m args below meth c cells slots (Q) D A nL (w a1 a2 a3 a4 a5 a6) pc (lv a1 a2 a3 a4 a5 a6) (st a1 a2 a3 a4 a5 a6)) (a1 : A1) (a2 : A2) (a3 : A3) (a4 : A4) (a5 : A5) (a6 : A6) (h : I a1 a2 a3 a4 a5 a6) : J p l e R s m args below meth c cells slots (Q) D A nL (w a1 a2 a3 a4 a5 a6) pc (lv a1 a2 a3 a4 a5 a6) (st a1 a2 a3 a4 a5 a6) := by
  have key : ∀ (n : Nat) (a1 : A1) (a2 : A2) (a3 : A3) (a4 : A4) (a5 : A5) (a6 : A6), I a1 a2 a3 a4 a5 a6 → μ a1 a2 a3 a4 a5 a6 < n → J p l e R s m args below meth c cells slots (Q) D A nL (w a1 a2 a3 a4 a5 a6) pc (lv a1 a2 a3 a4 a5 a6) (st a1 a2 a3 a4 a5 a6) := by
    intro n
    induction n with
    | zero => intro a1 a2 a3 a4 a5 a6 _ h; exact absurd h (Nat.not_lt_zero _)
    | succ n ih => exact fun a1 a2 a3 a4 a5 a6 hI hm => body a1 a2 a3 a4 a5 a6 hI (fun b1 b2 b3 b4 b5 b6 hb hl => ih b1 b2 b3 b4 b5 b6 hb (Nat.lt_of_lt_of_le hl (Nat.le_of_lt_succ hm)))
  exact key _ a1 a2 a3 a4 a5 a6 h (Nat.lt_succ_self _)
theorem j_cut6 {A1 A2 A3 A4 A5 A6 : Type} {w0 : va_W} {pc0 : Nat} {lv0 : List (Nat × Value)} {st0 : List Value} (pc : Nat) (w : A1 → A2 → A3 → A4 → A5 → A6 → va_W) (lv : A1 → A2 → A3 → A4 → A5 → A6 → List (Nat × Value)) (st : A1 → A2 → A3 → A4 → A5 → A6 → List Value) (I : A1 → A2 → A3 → A4 → A5 → A6 → Prop) (body : ∀ (a1 : A1) (a2 : A2) (a3 : A3) (a4 : A4) (a5 : A5) (a6 : A6), I a1 a2 a3 a4 a5 a6 → J p l e R s m args below meth c cells slots (Q) D A nL (w a1 a2 a3 a4 a5 a6) pc (lv a1 a2 a3 a4 a5 a6) (st a1 a2 a3 a4 a5 a6)) (k : (∀ (a1 : A1) (a2 : A2) (a3 : A3) (a4 : A4) (a5 : A5) (a6 : A6), I a1 a2 a3 a4 a5 a6 → J p l e R s m args below meth c cells slots (Q) D A nL (w a1 a2 a3 a4 a5 a6) pc (lv a1 a2 a3 a4 a5 a6) (st a1 a2 a3 a4 a5 a6)) → J p l e R s m args below meth c cells slots (Q) D A nL (w0) pc0 (lv0) (st0)) : J p l e R s m args below meth c cells slots (Q) D A nL (w0) pc0 (lv0) (st0) := k body
theorem j_loop7 {A1 A2 A3 A4 A5 A6 A7 : Type} (w : A1 → A2 → A3 → A4 → A5 → A6 → A7 → va_W) (lv : A1 → A2 → A3 → A4 → A5 → A6 → A7 → List (Nat × Value)) (st : A1 → A2 → A3 → A4 → A5 → A6 → A7 → List Value) (I : A1 → A2 → A3 → A4 → A5 → A6 → A7 → Prop) (μ : A1 → A2 → A3 → A4 → A5 → A6 → A7 → Nat) (body : ∀ (a1 : A1) (a2 : A2) (a3 : A3) (a4 : A4) (a5 : A5) (a6 : A6) (a7 : A7), I a1 a2 a3 a4 a5 a6 a7 → (∀ (b1 : A1) (b2 : A2) (b3 : A3) (b4 : A4) (b5 : A5) (b6 : A6) (b7 : A7), I b1 b2 b3 b4 b5 b6 b7 → μ b1 b2 b3 b4 b5 b6 b7 < μ a1 a2 a3 a4 a5 a6 a7 → J p l e R s m args below meth c cells slots (Q) D A nL (w b1 b2 b3 b4 b5 b6 b7) pc (lv b1 b2 b3 b4 b5 b6 b7) (st b1 b2 b3 b4 b5 b6 b7)) → J p l e R s m args below meth c cells slots (Q) D A nL (w a1 a2 a3 a4 a5 a6 a7) pc (lv a1 a2 a3 a4 a5 a6 a7) (st a1 a2 a3 a4 a5 a6 a7)) (a1 : A1) (a2 : A2) (a3 : A3) (a4 : A4) (a5 : A5) (a6 : A6) (a7 : A7) (h : I a1 a2 a3 a4 a5 a6 a7) : J p l e R s m args below meth c cells slots (Q) D A nL (w a1 a2 a3 a4 a5 a6 a7) pc (lv a1 a2 a3 a4 a5 a6 a7) (st a1 a2 a3 a4 a5 a6 a7) := by
  have key : ∀ (n : Nat) (a1 : A1) (a2 : A2) (a3 : A3) (a4 : A4) (a5 : A5) (a6 : A6) (a7 : A7), I a1 a2 a3 a4 a5 a6 a7 → μ a1 a2 a3 a4 a5 a6 a7 < n → J p l e R s m args below meth c cells slots (Q) D A nL (w a1 a2 a3 a4 a5 a6 a7) pc (lv a1 a2 a3 a4 a5 a6 a7) (st a1 a2 a3 a4 a5 a6 a7) := by
    intro n
    induction n with
    | zero => intro a1 a2 a3 a4 a5 a6 a7 _ h; exact absurd h (Nat.not_lt_zero _)
    | succ n ih => exact fun a1 a2 a3 a4 a5 a6 a7 hI hm => body a1 a2 a3 a4 a5 a6 a7 hI (fun b1 b2 b3 b4 b5 b6 b7 hb hl => ih b1 b2 b3 b4 b5 b6 b7 hb (Nat.lt_of_lt_of_le hl (Nat.le_of_lt_succ hm)))
  exact key _ a1 a2 a3 a4 a5 a6 a7 h (Nat.lt_succ_self _)
theorem j_cut7 {A1 A2 A3 A4 A5 A6 A7 : Type} {w0 : va_W} {pc0 : Nat} {lv0 : List (Nat × Value)} {st0 : List Value} (pc : Nat) (w : A1 → A2 → A3 → A4 → A5 → A6 → A7 → va_W) (lv : A1 → A2 → A3 → A4 → A5 → A6 → A7 → List (Nat × Value)) (st : A1 → A2 → A3 → A4 → A5 → A6 → A7 → List Value) (I : A1 → A2 → A3 → A4 → A5 → A6 → A7 → Prop) (body : ∀ (a1 : A1) (a2 : A2) (a3 : A3) (a4 : A4) (a5 : A5) (a6 : A6) (a7 : A7), I a1 a2 a3 a4 a5 a6 a7 → J p l e R s m args below meth c cells slots (Q) D A nL (w a1 a2 a3 a4 a5 a6 a7) pc (lv a1 a2 a3 a4 a5 a6 a7) (st a1 a2 a3 a4 a5 a6 a7)) (k : (∀ (a1 : A1) (a2 : A2) (a3 : A3) (a4 : A4) (a5 : A5) (a6 : A6) (a7 : A7), I a1 a2 a3 a4 a5 a6 a7 → J p l e R s m args below meth c cells slots (Q) D A nL (w a1 a2 a3 a4 a5 a6 a7) pc (lv a1 a2 a3 a4 a5 a6 a7) (st a1 a2 a3 a4 a5 a6 a7)) → J p l e R s m args below meth c cells slots (Q) D A nL (w0) pc0 (lv0) (st0)) : J p l e R s m args below meth c cells slots (Q) D A nL (w0) pc0 (lv0) (st0) := k body
abbrev rmk (k : Nat) : Room := { frames := k, cells := 0, slots := 0, locals := 60 * k }
end JC
end
section
theorem fa_and (a b : Nat) : nI a &&& nI b = nI (a &&& b) := by
  apply Int32.toBitVec_inj.1
  show BitVec.ofNat 32 a &&& BitVec.ofNat 32 b = BitVec.ofNat 32 (a &&& b)
  apply BitVec.eq_of_getLsbD_eq
  intro i hi
  simp [hi]
theorem fa_or (a b : Nat) : nI a ||| nI b = nI (a ||| b) := by
  apply Int32.toBitVec_inj.1
  show BitVec.ofNat 32 a ||| BitVec.ofNat 32 b = BitVec.ofNat 32 (a ||| b)
  apply BitVec.eq_of_getLsbD_eq
  intro i hi
  simp [hi]
theorem fb_xorI (a b : Nat) : nI a ^^^ nI b = nI (a ^^^ b) := by
  apply Int32.toBitVec_inj.1
  show BitVec.ofNat 32 a ^^^ BitVec.ofNat 32 b = BitVec.ofNat 32 (a ^^^ b)
  apply BitVec.eq_of_getLsbD_eq
  intro i hi
  simp [hi]
theorem s_l : ∀ n, n < 32 → ((nI n &&& 31).toBitVec.smod 32).toNat = n := by decide +kernel
theorem ofI_n (n : Nat) : Int32.ofInt (n : Int) = nI n := rfl
theorem inc_n (a n : Nat) : nI a + Int32.ofInt (n : Int) = nI (a + n) := by rw [ofI_n, nI_add]
theorem dec_n {a : Nat} (h : 1 ≤ a) : nI a + Int32.ofInt (-1) = nI (a - 1) := by
  obtain ⟨b, rfl⟩ : ∃ b, a = b + 1 := ⟨a - 1, by omega⟩
  exact pk_m1 b
theorem sh_1 {k : Nat} (h : k < 31) : nI 1 <<< (nI k &&& 31) = nI (2 ^ k) := by
  have h2 : 2 ^ k < 2 ^ 31 := Nat.pow_lt_pow_right (by decide) h
  rw [pk_shlN (nI k &&& 31) k (s_l k (by omega)) (by omega), Nat.one_mul]
theorem sh_r {a k : Nat} (ha : a < 2147483648) (hk : k < 32) : nI a >>> (nI k &&& 31) = nI (a >>> k) := by
  rw [pk_shrN ha (nI k &&& 31) k (s_l k hk), Nat.shiftRight_eq_div_pow]
theorem tb_nat (a k : Nat) : (a >>> k) &&& 1 = (a.testBit k).toNat := by
  rw [Nat.and_one_is_mod, Nat.testBit_eq_decide_div_mod_eq, Nat.shiftRight_eq_div_pow]
  rcases Nat.mod_two_eq_zero_or_one (a / 2 ^ k) with h | h <;> simp [h]
theorem tb_bit (a k : Nat) : nI (a >>> k) &&& nI 1 = bI (a.testBit k) := by
  rw [fa_and, tb_nat]
  cases a.testBit k <;> rfl
theorem bI_1 {b : Bool} : bI b = nI 1 ↔ b = true := by cases b <;> decide +kernel
theorem lN_ne0 {n : Nat} (h0 : 0 < n) (h : n < 9223372036854775808) : ¬ lN n = 0 := fun e => absurd ((pk_lEQ (b := 0) h (by decide)).mp (show lN n = lN 0 from e)) (by omega)
theorem sw_out (n : Nat) (x : Int32) (h : ∀ k, k < n → ¬ x = nI k) : x.toInt < 0 ∨ ((n : Int) - 1) < x.toInt := by
  by_cases h0 : x < 0
  · left
    have := Int32.lt_iff_toInt_lt.mp h0
    simpa using this
  · right
    obtain ⟨j, hj, rfl⟩ := nI_of h0
    rw [nI_toInt hj]
    by_cases hn : j < n
    · exact absurd rfl (h j hn)
    · omega
/-- a copy of a stretch of a row -/
def cpN (f g : Nat → Nat) (sp dp n : Nat) : Nat → Nat := fun k => if dp ≤ k ∧ k < dp + n then f (sp + (k - dp)) else g k
theorem cp_nA (f g : Nat → Nat) (sp dp n : Nat) : va_cpy (nA f) (nA g) sp dp n = nA (cpN f g sp dp n) := by
  funext k
  unfold va_cpy nA cpN
  split <;> rfl
theorem cpN_in {f g : Nat → Nat} {n k : Nat} (h : k < n) : cpN f g 0 0 n k = f k := by
  unfold cpN
  rw [if_pos ⟨Nat.zero_le _, by omega⟩]
  simp
section JX
variable {p : Program} {l : Launch} {e : Env} {R : Room} {s : State} {m : MethodId} {args : Array Value} {below : List Frame} {meth : Method} {c : Code} {cells slots : Nat} {Q : State → Prop} {D : va_G} {A : Nat → Prop} {nL : Nat} {cc : ByteArray} {own : String} {cyI cyZ cyO : ClassId} {w : va_W} {pc : Nat} {lv : List (Nat × Value)} {st : List Value}
theorem j_b1_eq (C : Cx p R s m args c cc nL own D (cyI, cyZ, cyO) A) {b : Bool} {off : Int} (tgt : Nat) {pc' : Nat} (hdg : decode cc pc = .ok (.if_icmp .eq off, 3)) (ht : (pc : Int) + off = (tgt : Int)) (hp : pc + 3 = pc') (kt : b = true → J p l e R s m args below meth c cells slots Q D A nL w tgt lv st) (kf : b = false → J p l e R s m args below meth c cells slots Q D A nL w pc' lv st) : J p l e R s m args below meth c cells slots Q D A nL w pc lv (.int (nI 1) :: .int (bI b) :: st) :=
  j_ic_eq C tgt hdg ht hp (fun h => kt (bI_1.mp h)) (fun h => kf (by cases b; rfl; exact absurd rfl h))
theorem j_b1_ne (C : Cx p R s m args c cc nL own D (cyI, cyZ, cyO) A) {b : Bool} {off : Int} (tgt : Nat) {pc' : Nat} (hdg : decode cc pc = .ok (.if_icmp .ne off, 3)) (ht : (pc : Int) + off = (tgt : Int)) (hp : pc + 3 = pc') (kt : b = false → J p l e R s m args below meth c cells slots Q D A nL w tgt lv st) (kf : b = true → J p l e R s m args below meth c cells slots Q D A nL w pc' lv st) : J p l e R s m args below meth c cells slots Q D A nL w pc lv (.int (nI 1) :: .int (bI b) :: st) :=
  j_ic_ne C tgt hdg ht hp (fun h => kt (by cases b; rfl; exact absurd rfl h)) (fun h => kf (bI_1.mp (Classical.not_not.mp h)))
theorem j_copy (C : Cx p R s m args c cc nL own D (cyI, cyZ, cyO) A) {index a0 a1 n0 n1 sp dp n : Nat} {f g : Nat → Nat} {pc' : Nat} (hlink : Cond.methodLink own index arraycopyName ∈ lw_T) (w' : va_W) (q0 q1 : Nat) (h0 : w[q0]? = some (a0, .inl (cyI, n0, .inl (nA f)))) (h1 : w[q1]? = some (a1, .inl (cyI, n1, .inl (nA g)))) (hs : sp + n ≤ n0) (hd : dp + n ≤ n1) (hb : n0 < 2147483648 ∧ n1 < 2147483648) (hfr : 1 ≤ R.frames) (hlo : (st.map fun v => v.category).sum + (nativeFrameWords "java/lang/System" "arraycopy" 5 + 11) ≤ R.locals) (hdg : decode cc pc = .ok (.invokestatic index, 3)) (hp : pc + 3 = pc') (hw : w.set q1 (a1, .inl (cyI, n1, .inl (nA (cpN f g sp dp n)))) = w') (k : J p l e R s m args below meth c cells slots Q D A nL w' pc' lv st) : J p l e R s m args below meth c cells slots Q D A nL w pc lv (.int (nI n) :: .int (nI dp) :: .ref a1 :: .int (nI sp) :: .ref a0 :: st) := by
  subst hp; subst hw
  intro H locs ls hP hD hS hl
  have es : (nI sp).toNatClampNeg = sp := nI_clamp (by omega)
  have ed : (nI dp).toNatClampNeg = dp := nI_clamp (by omega)
  have en : (nI n).toNatClampNeg = n := nI_clamp (by omega)
  refine va_copyi C.1 C.2.1 (by rw [C.2.2.1]; exact hl.1.symm) C.2.2.2.1 (C.2.2.2.2.1 _ hlink) (C.2.2.2.2.1 _ native_arraycopy) (C.2.2.2.2.1 _ static_arraycopy) (C.2.2.2.2.1 _ ni_J10) C.2.2.2.2.2.1 hP hD hS q0 q1 0 0 h0 h1 rfl rfl rfl (nI_pos (by omega)) (nI_pos (by omega)) (nI_pos (by omega)) (by rw [es, en]; exact hs) (by rw [ed, en]; exact hd) (fun i _ => rfl) hfr hlo hdg (fun H1 locs1 hP1 hD1 hS1 => ?_)
  rw [es, ed, en, cp_nA] at hP1 hD1
  exact k H1 locs1 ls hP1 hD1 hS1 hl
end JX
section JY
variable {p : Program} {l : Launch} {e : Env} {R : Room} {s : State} {m : MethodId} {args : Array Value} {below : List Frame} {meth : Method} {c : Code} {cells slots : Nat} {Q : State → Prop} {D : va_G} {A : Nat → Prop} {nL : Nat} {cc : ByteArray} {own : String} {cyI cyZ cyO : ClassId} {w : va_W} {pc : Nat} {lv : List (Nat × Value)} {st : List Value}
theorem j_b0_eq (C : Cx p R s m args c cc nL own D (cyI, cyZ, cyO) A) {b : Bool} {off : Int} (tgt : Nat) {pc' : Nat} (hdg : decode cc pc = .ok (.if_icmp .eq off, 3)) (ht : (pc : Int) + off = (tgt : Int)) (hp : pc + 3 = pc') (kt : b = false → J p l e R s m args below meth c cells slots Q D A nL w tgt lv st) (kf : b = true → J p l e R s m args below meth c cells slots Q D A nL w pc' lv st) : J p l e R s m args below meth c cells slots Q D A nL w pc lv (.int (nI 0) :: .int (bI b) :: st) :=
  j_ic_eq C tgt hdg ht hp (fun h => kt (bI_0.mp h)) (fun h => kf (by cases b; exact absurd rfl h; rfl))
theorem j_b0_ne (C : Cx p R s m args c cc nL own D (cyI, cyZ, cyO) A) {b : Bool} {off : Int} (tgt : Nat) {pc' : Nat} (hdg : decode cc pc = .ok (.if_icmp .ne off, 3)) (ht : (pc : Int) + off = (tgt : Int)) (hp : pc + 3 = pc') (kt : b = true → J p l e R s m args below meth c cells slots Q D A nL w tgt lv st) (kf : b = false → J p l e R s m args below meth c cells slots Q D A nL w pc' lv st) : J p l e R s m args below meth c cells slots Q D A nL w pc lv (.int (nI 0) :: .int (bI b) :: st) :=
  j_ic_ne C tgt hdg ht hp (fun h => kt (by cases b; exact absurd rfl h; rfl)) (fun h => kf (bI_0.mp (Classical.not_not.mp h)))
end JY
theorem bI_t {q : Prop} [Decidable q] (h : q) : bI true = bI (decide q) := by rw [decide_eq_true h]
theorem bI_f {q : Prop} [Decidable q] (h : ¬ q) : bI false = bI (decide q) := by rw [decide_eq_false h]
theorem i_lt (a b : Int32) : a < b ↔ a.toInt < b.toInt := Int32.lt_iff_toInt_lt
theorem i_le (a b : Int32) : a ≤ b ↔ a.toInt ≤ b.toInt := Int32.le_iff_toInt_le
theorem i_0 : (0 : Int32).toInt = 0 := rfl
theorem i_m1 : (-1 : Int32).toInt = -1 := by decide +kernel
end
section
/-! what was told (t, 42 numbers) and what is now (s, 30 numbers), as the reference lays them -/
def WT (t : Nat → Nat) : Prop := 2 ≤ t 0 ∧ t 0 ≤ 7 ∧ t 1 ≤ 9 ∧ t 2 ≤ 3 ∧ (∀ c, c < t 1 → t (3 + c) < 4 ∧ t (12 + c) < t 0 ∧ t (21 + c) < t 0 ∧ (t (3 + c) < 2 → t (30 + c) < 4) ∧ (2 ≤ t (3 + c) → t (30 + c) = 4294967287)) ∧ (∀ l, l < t 2 → 0 < t (39 + l) ∧ t (39 + l) < t 0)
def WS (s : Nat → Nat) : Prop := (∀ l, l < 3 → s l < 65536) ∧ (∀ c, c < 9 → s (3 + c) ≤ 4 ∧ s (12 + c) < 4 ∧ s (21 + c) < 3)
theorem WT.n {t : Nat → Nat} (h : WT t) : 2 ≤ t 0 ∧ t 0 ≤ 7 ∧ t 1 ≤ 9 ∧ t 2 ≤ 3 := ⟨h.1, h.2.1, h.2.2.1, h.2.2.2.1⟩
theorem WT.c {t : Nat → Nat} (h : WT t) {c : Nat} (hc : c < t 1) : t (3 + c) < 4 ∧ t (12 + c) < t 0 ∧ t (21 + c) < t 0 ∧ (t (3 + c) < 2 → t (30 + c) < 4) ∧ (2 ≤ t (3 + c) → t (30 + c) = 4294967287) := h.2.2.2.2.1 c hc
theorem WT.l {t : Nat → Nat} (h : WT t) {l : Nat} (hl : l < t 2) : 0 < t (39 + l) ∧ t (39 + l) < t 0 := h.2.2.2.2.2 l hl
theorem WS.c {s : Nat → Nat} (h : WS s) {c : Nat} (hc : c < 9) : s (3 + c) ≤ 4 ∧ s (12 + c) < 4 ∧ s (21 + c) < 3 := h.2 c hc
/-- whether a contact is shut in a state; whether it is a way -/
def shB (t s : Nat → Nat) (c st : Nat) : Bool :=
  if s (21 + c) = 0 then (if t (3 + c) = 0 then st.testBit (t (30 + c)) else if t (3 + c) = 1 then !(st.testBit (t (30 + c))) else true) && (decide (1 < s (3 + c)) || (st.testBit (s (12 + c)) == decide (s (3 + c) = 0)))
  else decide (s (21 + c) = 2)
def wyB (t s : Nat → Nat) (c : Nat) (back : Bool) : Bool :=
  if s (21 + c) = 0 then (if back then decide (t (3 + c) ≠ 3) && decide (s (3 + c) ≠ 2) else decide (s (3 + c) ≠ 3))
  else decide (s (21 + c) = 2)
/-- what is live: over one contact, over the first c, after some rounds -/
def lvA (t s : Nat → Nat) (c set : Nat) : Nat := set ||| (if set.testBit (t (12 + c)) && wyB t s c false then 2 ^ t (21 + c) else 0)
def lvB (t s : Nat → Nat) (c set : Nat) : Nat := set ||| (if set.testBit (t (21 + c)) && wyB t s c true then 2 ^ t (12 + c) else 0)
def lvC (t s : Nat → Nat) (st wo c set : Nat) : Nat := if (!wo.testBit c && shB t s c st) = true then lvB t s c (lvA t s c set) else set
def lvS (t s : Nat → Nat) (st wo : Nat) : Nat → Nat → Nat
  | 0, set => set
  | c + 1, set => lvC t s st wo c (lvS t s st wo c set)
def lvR (t s : Nat → Nat) (st wo : Nat) : Nat → Nat
  | 0 => 1
  | r + 1 => lvS t s st wo (t 1) (lvR t s st wo r)
def fedB (t s : Nat → Nat) (l st wo : Nat) : Bool := (lvR t s st wo (t 0)).testBit (t (39 + l))
/-- the number whose bits below n are f's -/
def bsN (f : Nat → Bool) : Nat → Nat
  | 0 => 0
  | n + 1 => bsN f n ||| (if f n then 2 ^ n else 0)
def fedN (t s : Nat → Nat) (l : Nat) : Nat := bsN (fun st => fedB t s l st 0) 16
theorem or_lt {a b k : Nat} (ha : a < 2 ^ k) (hb : b < 2 ^ k) : a ||| b < 2 ^ k := Nat.or_lt_two_pow ha hb
theorem p2_lt {a k : Nat} (h : a < k) : 2 ^ a < 2 ^ k := Nat.pow_lt_pow_right (by decide) h
theorem if_lt {b : Prop} [Decidable b] {x k : Nat} (h : x < 2 ^ k) : (if b then x else 0) < 2 ^ k := by
  split
  · exact h
  · exact Nat.two_pow_pos k
theorem lvA_lt {t s : Nat → Nat} {c set : Nat} (hG : t (21 + c) < 7) (h : set < 2 ^ 7) : lvA t s c set < 2 ^ 7 := or_lt h (if_lt (p2_lt hG))
theorem lvB_lt {t s : Nat → Nat} {c set : Nat} (hF : t (12 + c) < 7) (h : set < 2 ^ 7) : lvB t s c set < 2 ^ 7 := or_lt h (if_lt (p2_lt hF))
theorem lvC_lt {t s : Nat → Nat} {st wo c set : Nat} (hF : t (12 + c) < 7) (hG : t (21 + c) < 7) (h : set < 2 ^ 7) : lvC t s st wo c set < 2 ^ 7 := by
  unfold lvC
  split
  · exact lvB_lt hF (lvA_lt hG h)
  · exact h
theorem lvS_lt {t s : Nat → Nat} {st wo : Nat} (hT : WT t) : ∀ {c set : Nat}, c ≤ t 1 → set < 2 ^ 7 → lvS t s st wo c set < 2 ^ 7
  | 0, _, _, h => h
  | c + 1, set, hc, h => by
    have h1 := hT.c (c := c) (by omega)
    have h0 := hT.n
    exact lvC_lt (by omega) (by omega) (lvS_lt hT (by omega) h)
theorem lvR_lt {t s : Nat → Nat} {st wo : Nat} (hT : WT t) : ∀ r : Nat, lvR t s st wo r < 2 ^ 7
  | 0 => by simp [lvR, bsN]
  | r + 1 => lvS_lt hT (Nat.le_refl _) (lvR_lt hT r)
theorem bsN_lt (f : Nat → Bool) : ∀ n : Nat, bsN f n < 2 ^ n
  | 0 => by simp [lvR, bsN]
  | n + 1 => or_lt (Nat.lt_of_lt_of_le (bsN_lt f n) (Nat.pow_le_pow_right (by decide) (Nat.le_succ n))) (if_lt (p2_lt (Nat.lt_succ_self n)))
theorem bsN_bit (f : Nat → Bool) (i : Nat) : ∀ n : Nat, (bsN f n).testBit i = (decide (i < n) && f i)
  | 0 => by simp [bsN]
  | n + 1 => by
    rw [bsN, Nat.testBit_or, bsN_bit f i n]
    by_cases h : i = n
    · subst h
      cases hf : f i <;> simp [Nat.testBit_two_pow_self]
    · have h1 : (if f n = true then 2 ^ n else 0).testBit i = false := by
        split
        · exact Nat.testBit_two_pow_of_ne (fun q => h q.symm)
        · exact Nat.zero_testBit i
      rw [h1, Bool.or_false]
      by_cases h2 : i < n
      · simp [h2, Nat.lt_succ_of_lt h2]
      · have h3 : ¬ i < n + 1 := by omega
        simp [h2, h3]
end
section
/-! what each call answers and leaves, as functions of what was there -/
def inR (x : Int32) (n : Nat) : Bool := decide (0 ≤ x.toInt ∧ x.toInt < (n : Int))
theorem inR_t {x : Int32} {n : Nat} (h : inR x n = true) (hn : n < 2147483648) : ∃ j : Nat, j < n ∧ x = nI j := by
  have h1 := of_decide_eq_true h
  obtain ⟨j, hj, rfl⟩ := nI_of (x := x) (fun q => by rw [i_lt, i_0] at q; omega)
  rw [nI_toInt hj] at h1
  exact ⟨j, by omega, rfl⟩
theorem inR_n {j n : Nat} (h : j < n) (hn : n < 2147483648) : inR (nI j) n = true := by
  unfold inR
  rw [nI_toInt (by omega)]
  exact decide_eq_true (by omega)
theorem inR_f {x : Int32} {n : Nat} (h : inR x n = false) : x.toInt < 0 ∨ (n : Int) ≤ x.toInt := by
  have h1 := of_decide_eq_false h
  omega
theorem in_R (x : Int32) (a : Nat) (h : a < 1073741824) : decide ((nI 0).toInt ≤ x.toInt ∧ x.toInt ≤ ((nI a) - (nI 1)).toInt) = inR x a := by
  unfold inR
  rw [pk_sub_toInt h (by decide), nI_toInt (n := 0) (by decide)]
  exact decide_eq_decide.mpr (by omega)
theorem in_R2 (x : Int32) (a : Nat) (h : a < 1073741824) : decide ((nI 0).toInt ≤ x.toInt ∧ x.toInt ≤ (nI a).toInt) = inR x (a + 1) := by
  unfold inR
  rw [nI_toInt (n := a) (by omega), nI_toInt (n := 0) (by decide)]
  exact decide_eq_decide.mpr (by omega)
def tyQ (x : Nat → Nat) (n : Nat) (v : Int32) : Int32 × (Nat → Nat) × Nat := if inR v 256 = false then (-1, x, n) else if n = 100 then (-3, x, n) else (nI (n + 1), uN x n v.toNatClampNeg, n + 1)
def ctQ (t s : Nat → Nat) (c w : Int32) : Int32 := if inR c (t 1) = false then -1 else if w = nI 0 then nI (t (3 + c.toNatClampNeg)) else if w = nI 1 then nI (t (12 + c.toNatClampNeg)) else if w = nI 2 then nI (t (21 + c.toNatClampNeg)) else if w = nI 3 then nI (t (30 + c.toNatClampNeg)) else if w = nI 4 then nI (s (3 + c.toNatClampNeg)) else if w = nI 5 then (if s (3 + c.toNatClampNeg) < 2 then nI (s (12 + c.toNatClampNeg)) else -9) else if w = nI 6 then nI (s (21 + c.toNatClampNeg)) else -1
/-- a snapshot more among those that are known -/
def nN (n : Nat) : Nat := if n = 10 then 9 else n
def flN (y f : Nat → Nat) (b i : Nat) : Nat → Nat := fun k => if b ≤ k ∧ k < b + i then f (k - b) else y k
theorem flN_0 (y f : Nat → Nat) (b : Nat) : flN y f b 0 = y := by
  funext k
  unfold flN
  rw [if_neg (by omega)]
theorem flN_s (y f : Nat → Nat) (b i : Nat) : uN (flN y f b i) (b + i) (f i) = flN y f b (i + 1) := by
  funext k
  unfold flN uN
  by_cases h : k = b + i
  · rw [if_pos h, if_pos (by omega)]
    congr 1
    omega
  · rw [if_neg h]
    dsimp only
    by_cases h2 : b ≤ k ∧ k < b + i
    · rw [if_pos h2, if_pos (by omega)]
    · rw [if_neg h2, if_neg (by omega)]
theorem flN_o {y f : Nat → Nat} {b i k : Nat} (h : k < b ∨ b + i ≤ k) : flN y f b i k = y k := if_neg (by omega)
theorem flN_i {y f : Nat → Nat} {b i k : Nat} (h : b ≤ k) (h2 : k < b + i) : flN y f b i k = f (k - b) := if_pos ⟨h, h2⟩
def nU (u s : Nat → Nat) (n : Nat) : Nat → Nat := flN (if n = 10 then flN u (fun k => u (k + 30)) 0 270 else u) s (30 * nN n) 30
abbrev Sq : Type := Int32 × (Nat → Nat) × (Nat → Nat) × Nat
def wiQ (t s u : Nat → Nat) (n : Nat) (l v : Int32) : Sq := if (inR l (t 2) && inR v 65536) = false then (-1, s, u, n) else (nI (s l.toNatClampNeg), uN s l.toNatClampNeg v.toNatClampNeg, nU u s n, nN n + 1)
def cuQ (t s u : Nat → Nat) (n : Nat) (c kd b : Int32) : Sq := if (inR c (t 1) && inR kd 5 && inR b (if kd.toInt < 2 then 4 else 1)) = false then (-1, s, u, n) else if s (3 + c.toNatClampNeg) = kd.toNatClampNeg ∧ s (12 + c.toNatClampNeg) = b.toNatClampNeg then (-2, s, u, n) else (nI (s (3 + c.toNatClampNeg)), uN (uN s (3 + c.toNatClampNeg) kd.toNatClampNeg) (12 + c.toNatClampNeg) b.toNatClampNeg, nU u s n, nN n + 1)
def skQ (t s u : Nat → Nat) (n : Nat) (c h : Int32) : Sq := if (inR c (t 1) && inR h 3) = false then (-1, s, u, n) else if s (21 + c.toNatClampNeg) = h.toNatClampNeg then (-2, s, u, n) else (nI (s (21 + c.toNatClampNeg)), uN s (21 + c.toNatClampNeg) h.toNatClampNeg, nU u s n, nN n + 1)
/-- the k-th snapshot, above what there was (beyond the 30 numbers nothing is changed) -/
def snp (u : Nat → Nat) (b : Nat) (s : Nat → Nat) : Nat → Nat := flN s (fun k => u (b + k)) 0 30
def unQ (s u : Nat → Nat) (n : Nat) : Int32 × (Nat → Nat) × Nat := if n = 0 then (-2, s, n) else (nI (n - 1), snp u (30 * (n - 1)) s, n - 1)
end
section
set_option maxHeartbeats 4000000 in
set_option maxRecDepth 100000 in
theorem c_X8_in {lch : Launch} {dG : va_G} {cyI cyZ cyO : ClassId} (x : Int32) (a : Int32) (b : Int32)  : Ki lch yX8_in cX8_in 3 .boolean (rmk 1) dG (cyI, cyZ, cyO) [.int x, .int a, .int b] [] (fun r w1 => w1 = [] ∧ r = (bI (decide (a.toInt ≤ x.toInt ∧ x.toInt ≤ b.toInt)))) := by
  refine Ki.of (own := RX8) rfl (by decide) (Nat.le_of_ble_eq_true rfl) (fun p0 e0 s0 m0 ar0 be0 me0 cd0 A0 C hr hk hnm hA => ?_)
  refine j_lsub [(0, .int x), (1, .int a), (2, .int b)] [0, 1, 2] rfl ?_
  refine j_iload_n (pc' := 1) C dX8_in_0 rfl 0 rfl ?_
  refine j_iload_n (pc' := 2) C dX8_in_1 rfl 1 rfl ?_
  refine j_ic_lt (pc' := 5) C 14 dX8_in_2 (by decide) rfl (fun c2 => ?_) (fun c2 => ?_)
  · refine j_iconst (v := (nI 0)) (pc' := 15) C dX8_in_14 rfl (by decide +kernel) ?_
    refine j_top (bI false) (by decide +kernel) ?_
    exact j_iret C hr hk hA dX8_in_15 (nrw_bI _) (⟨rfl, bI_f (by simp only [i_lt, i_le] at *; omega)⟩)
  · refine j_iload_n (pc' := 6) C dX8_in_5 rfl 0 rfl ?_
    refine j_iload_n (pc' := 7) C dX8_in_6 rfl 2 rfl ?_
    refine j_ic_gt (pc' := 10) C 14 dX8_in_7 (by decide) rfl (fun c7 => ?_) (fun c7 => ?_)
    · refine j_iconst (v := (nI 0)) (pc' := 15) C dX8_in_14 rfl (by decide +kernel) ?_
      refine j_top (bI false) (by decide +kernel) ?_
      exact j_iret C hr hk hA dX8_in_15 (nrw_bI _) (⟨rfl, bI_f (by simp only [i_lt, i_le] at *; omega)⟩)
    · refine j_iconst (v := (nI 1)) (pc' := 11) C dX8_in_10 rfl (by decide +kernel) ?_
      refine j_goto C 15 dX8_in_11 (by decide) ?_
      refine j_top (bI true) (by decide +kernel) ?_
      exact j_iret C hr hk hA dX8_in_15 (nrw_bI _) (⟨rfl, bI_t (by simp only [i_lt, i_le] at *; omega)⟩)

set_option maxHeartbeats 4000000 in
set_option maxRecDepth 100000 in
theorem c_X8_has {lch : Launch} {dG : va_G} {cyI cyZ cyO : ClassId} (a : Nat) (k : Nat) (ha : a < 2147483648) (hk9 : k < 31) : Ki lch yX8_has cX8_has 2 .boolean (rmk 1) dG (cyI, cyZ, cyO) [.int (nI a), .int (nI k)] [] (fun r w1 => w1 = [] ∧ r = (bI (a.testBit k))) := by
  refine Ki.of (own := RX8) rfl (by decide) (Nat.le_of_ble_eq_true rfl) (fun p0 e0 s0 m0 ar0 be0 me0 cd0 A0 C hr hk hnm hA => ?_)
  refine j_lsub [(0, .int (nI a)), (1, .int (nI k))] [0, 1] rfl ?_
  refine j_iload_n (pc' := 1) C dX8_has_0 rfl 0 rfl ?_
  refine j_iload_n (pc' := 2) C dX8_has_1 rfl 1 rfl ?_
  refine j_ishr (v := (nI (a >>> k))) (pc' := 3) C dX8_has_2 rfl (sh_r (by omega) (by omega)) ?_
  refine j_iconst (v := (nI 1)) (pc' := 4) C dX8_has_3 rfl (by decide +kernel) ?_
  refine j_iand (v := (bI (Nat.testBit a k))) (pc' := 5) C dX8_has_4 rfl (tb_bit _ _) ?_
  refine j_iconst (v := (nI 1)) (pc' := 6) C dX8_has_5 rfl (by decide +kernel) ?_
  refine j_b1_ne (pc' := 9) C 13 dX8_has_6 (by decide) rfl (fun c6 => ?_) (fun c6 => ?_)
  · refine j_iconst (v := (nI 0)) (pc' := 14) C dX8_has_13 rfl (by decide +kernel) ?_
    refine j_top (bI false) (by decide +kernel) ?_
    exact j_iret C hr hk hA dX8_has_14 (nrw_bI _) (⟨rfl, by rw [c6]⟩)
  · refine j_iconst (v := (nI 1)) (pc' := 10) C dX8_has_9 rfl (by decide +kernel) ?_
    refine j_goto C 14 dX8_has_10 (by decide) ?_
    refine j_top (bI true) (by decide +kernel) ?_
    exact j_iret C hr hk hA dX8_has_14 (nrw_bI _) (⟨rfl, by rw [c6]⟩)

set_option maxHeartbeats 4000000 in
set_option maxRecDepth 100000 in
theorem c_X8_isShut {lch : Launch} {dG : va_G} {cyI cyZ cyO : ClassId} (a0 : Nat) (th : Int32) (aX : Nat) (ty : Int32) (sp : Int32) (tk : Int32) (pl : Int32) (va : Int32) (fa : Int32) (aT : Nat) (aD : Nat) (aS : Nat) (aU : Nat) (um : Int32) (aK : Nat) (aI : Nat) (aL : Nat) (aE : Nat) (aF : Nat) (sm : Int32) (aP : Nat) (aW : Nat) (sn : Int32) (aB : Nat) (aM : Nat) (t : Nat → Nat) (s : Nat → Nat) (c : Nat) (st : Nat) (hT : WT t) (hS : WS s) (hc : c < t 1) (hst : st < 16) : Ki lch yX8_isShut cX8_isShut 6 .boolean (rmk 2) dG (cyI, cyZ, cyO) [.ref a0, .int (nI c), .int (nI st)] [(a0, .inr (8, [.int th, .ref aX, .int ty, .int sp, .int tk, .int pl, .int va, .int fa, .ref aT, .ref aD, .ref aS, .ref aU, .int um, .ref aK, .ref aI, .ref aL, .ref aE, .ref aF, .int sm, .ref aP, .ref aW, .int sn, .ref aB, .ref aM])), (aT, .inl (cyI, 42, .inl (nA t))), (aS, .inl (cyI, 30, .inl (nA s)))] (fun r w1 => w1 = [(a0, .inr (8, [.int th, .ref aX, .int ty, .int sp, .int tk, .int pl, .int va, .int fa, .ref aT, .ref aD, .ref aS, .ref aU, .int um, .ref aK, .ref aI, .ref aL, .ref aE, .ref aF, .int sm, .ref aP, .ref aW, .int sn, .ref aB, .ref aM])), (aT, .inl (cyI, 42, .inl (nA t))), (aS, .inl (cyI, 30, .inl (nA s)))] ∧ r = (bI (shB t s c st))) := by
  have h1 := hT.n
  have h2 := hT.c hc
  have h3 := hS.c (c := c) (by omega)
  have hz : ∀ z : Prop, [Decidable z] → z → decide z = true := fun z _ h => decide_eq_true h
  refine Ki.of (own := RX8) rfl (by decide) (Nat.le_of_ble_eq_true rfl) (fun p0 e0 s0 m0 ar0 be0 me0 cd0 A0 C hr hk hnm hA => ?_)
  refine j_lsub [(0, .ref a0), (1, .int (nI c)), (2, .int (nI st))] [0, 1, 2] rfl ?_
  refine j_aload_n (pc' := 1) C dX8_isShut_0 rfl 0 rfl ?_
  refine j_get (v := .ref aS) (pc' := 4) C KX8 0 10 rfl (by decide) fl_X8_19 rfl rfl dX8_isShut_1 rfl ?_
  refine j_bipush (v := (nI 21)) (pc' := 6) C dX8_isShut_4 rfl (by decide +kernel) ?_
  refine j_iload_n (pc' := 7) C dX8_isShut_6 rfl 1 rfl ?_
  refine j_iadd (v := (nI (21 + c))) (pc' := 8) C dX8_isShut_7 rfl (nI_add 21 c) ?_
  refine j_nald (pc' := 9) C 2 rfl (by omega) (by decide) dX8_isShut_8 rfl ?_
  refine j_nz_eq (pc' := 12) C 31 dX8_isShut_9 (by decide) rfl (by omega) (fun c9 => ?_) (fun c9 => ?_)
  · refine j_aload_n (pc' := 32) C dX8_isShut_31 rfl 0 rfl ?_
    refine j_get (v := .ref aT) (pc' := 35) C KX8 0 8 rfl (by decide) fl_X8_13 rfl rfl dX8_isShut_32 rfl ?_
    refine j_iconst (v := (nI 3)) (pc' := 36) C dX8_isShut_35 rfl (by decide +kernel) ?_
    refine j_iload_n (pc' := 37) C dX8_isShut_36 rfl 1 rfl ?_
    refine j_iadd (v := (nI (3 + c))) (pc' := 38) C dX8_isShut_37 rfl (nI_add 3 c) ?_
    refine j_nald (pc' := 39) C 1 rfl (by omega) (by decide) dX8_isShut_38 rfl ?_
    refine j_istore_n (pc' := 40) C [(3, .int (nI (t (3 + c)))), (0, .ref a0), (1, .int (nI c)), (2, .int (nI st))] dX8_isShut_39 rfl (by decide) rfl ?_
    refine j_iload_n (pc' := 41) C dX8_isShut_40 rfl 0 rfl ?_
    refine j_nz_ne (pc' := 44) C 60 dX8_isShut_41 (by decide) rfl (by omega) (fun c41 => ?_) (fun c41 => ?_)
    · refine j_iload_n (pc' := 61) C dX8_isShut_60 rfl 0 rfl ?_
      refine j_iconst (v := (nI 1)) (pc' := 62) C dX8_isShut_61 rfl (by decide +kernel) ?_
      refine j_nc_ne (pc' := 65) C 81 dX8_isShut_62 (by decide) rfl (by omega) (by omega) (fun c62 => ?_) (fun c62 => ?_)
      · refine j_iconst (v := (nI 1)) (pc' := 82) C dX8_isShut_81 rfl (by decide +kernel) ?_
        refine j_goto C 86 dX8_isShut_82 (by decide) ?_
        refine j_istore (pc' := 88) C [(4, .int (nI 1)), (3, .int (nI (t (3 + c)))), (0, .ref a0), (1, .int (nI c)), (2, .int (nI st))] dX8_isShut_86 rfl (by decide) rfl ?_
        refine j_aload_n (pc' := 89) C dX8_isShut_88 rfl 2 rfl ?_
        refine j_get (v := .ref aS) (pc' := 92) C KX8 0 10 rfl (by decide) fl_X8_19 rfl rfl dX8_isShut_89 rfl ?_
        refine j_iconst (v := (nI 3)) (pc' := 93) C dX8_isShut_92 rfl (by decide +kernel) ?_
        refine j_iload_n (pc' := 94) C dX8_isShut_93 rfl 3 rfl ?_
        refine j_iadd (v := (nI (3 + c))) (pc' := 95) C dX8_isShut_94 rfl (nI_add 3 c) ?_
        refine j_nald (pc' := 96) C 2 rfl (by omega) (by decide) dX8_isShut_95 rfl ?_
        refine j_istore (pc' := 98) C [(5, .int (nI (s (3 + c)))), (4, .int (nI 1)), (3, .int (nI (t (3 + c)))), (0, .ref a0), (1, .int (nI c)), (2, .int (nI st))] dX8_isShut_96 rfl (by decide) rfl ?_
        refine j_iload (pc' := 100) C dX8_isShut_98 rfl 1 rfl ?_
        refine j_nz_eq (pc' := 103) C 139 dX8_isShut_100 (by decide) rfl (by omega) (fun c100 => ?_) (fun c100 => ?_)
        · exact absurd c100 (by decide)
        · refine j_iload (pc' := 105) C dX8_isShut_103 rfl 0 rfl ?_
          refine j_iconst (v := (nI 1)) (pc' := 106) C dX8_isShut_105 rfl (by decide +kernel) ?_
          refine j_nc_gt (pc' := 109) C 135 dX8_isShut_106 (by decide) rfl (by omega) (by omega) (fun c106 => ?_) (fun c106 => ?_)
          · refine j_iconst (v := (nI 1)) (pc' := 136) C dX8_isShut_135 rfl (by decide +kernel) ?_
            refine j_goto C 140 dX8_isShut_136 (by decide) ?_
            refine j_top (bI true) (by decide +kernel) ?_
            exact j_iret C hr hk hA dX8_isShut_140 (nrw_bI _) (⟨rfl, by unfold shB; simp_all <;> exact bI_f (by omega)⟩)
          · refine j_iload_n (pc' := 110) C dX8_isShut_109 rfl 5 rfl ?_
            refine j_aload_n (pc' := 111) C dX8_isShut_110 rfl 3 rfl ?_
            refine j_get (v := .ref aS) (pc' := 114) C KX8 0 10 rfl (by decide) fl_X8_19 rfl rfl dX8_isShut_111 rfl ?_
            refine j_bipush (v := (nI 12)) (pc' := 116) C dX8_isShut_114 rfl (by decide +kernel) ?_
            refine j_iload_n (pc' := 117) C dX8_isShut_116 rfl 4 rfl ?_
            refine j_iadd (v := (nI (12 + c))) (pc' := 118) C dX8_isShut_117 rfl (nI_add 12 c) ?_
            refine j_nald (pc' := 119) C 2 rfl (by omega) (by decide) dX8_isShut_118 rfl ?_
            refine j_cSi (As := [.int (nI st), .int (nI (s (12 + c)))]) (wr := [(a0, .inr (8, [.int th, .ref aX, .int ty, .int sp, .int tk, .int pl, .int va, .int fa, .ref aT, .ref aD, .ref aS, .ref aU, .int um, .ref aK, .ref aI, .ref aL, .ref aE, .ref aF, .int sm, .ref aP, .ref aW, .int sn, .ref aB, .ref aM])), (aT, .inl (cyI, 42, .inl (nA t))), (aS, .inl (cyI, 30, .inl (nA s)))]) (pc' := 122) C (c_X8_has (a := st) (k := s (12 + c)) (ha := by omega) (hk9 := by omega)) Y_X8_has (ml_X8_130) [] [0, 1, 2] rfl rfl rfl rfl (by decide) dX8_isShut_119 rfl rfl rfl (Nat.le_of_ble_eq_true rfl) ⟨Nat.le_of_ble_eq_true rfl, Nat.le_of_ble_eq_true rfl⟩ ⟨Nat.le_of_ble_eq_true rfl, Nat.le_of_ble_eq_true rfl⟩ ⟨rfl, rfl⟩ (fun r1 w1 hQ => ?_)
            obtain ⟨rfl, rfl⟩ := hQ
            refine j_perm [(a0, .inr (8, [.int th, .ref aX, .int ty, .int sp, .int tk, .int pl, .int va, .int fa, .ref aT, .ref aD, .ref aS, .ref aU, .int um, .ref aK, .ref aI, .ref aL, .ref aE, .ref aF, .int sm, .ref aP, .ref aW, .int sn, .ref aB, .ref aM])), (aT, .inl (cyI, 42, .inl (nA t))), (aS, .inl (cyI, 30, .inl (nA s)))] [0, 1, 2] rfl rfl (by decide) ?_
            refine j_iload (pc' := 124) C dX8_isShut_122 rfl 0 rfl ?_
            refine j_nz_ne (pc' := 127) C 131 dX8_isShut_124 (by decide) rfl (by omega) (fun c124 => ?_) (fun c124 => ?_)
            · refine j_iconst (v := (nI 0)) (pc' := 132) C dX8_isShut_131 rfl (by decide +kernel) ?_
              refine j_b0_ne (pc' := 135) C 139 dX8_isShut_132 (by decide) rfl (fun c132 => ?_) (fun c132 => ?_)
              · refine j_iconst (v := (nI 0)) (pc' := 140) C dX8_isShut_139 rfl (by decide +kernel) ?_
                refine j_top (bI false) (by decide +kernel) ?_
                exact j_iret C hr hk hA dX8_isShut_140 (nrw_bI _) (⟨rfl, by unfold shB; simp_all <;> exact bI_f (by omega)⟩)
              · refine j_iconst (v := (nI 1)) (pc' := 136) C dX8_isShut_135 rfl (by decide +kernel) ?_
                refine j_goto C 140 dX8_isShut_136 (by decide) ?_
                refine j_top (bI true) (by decide +kernel) ?_
                exact j_iret C hr hk hA dX8_isShut_140 (nrw_bI _) (⟨rfl, by unfold shB; simp_all <;> exact bI_f (by omega)⟩)
            · refine j_iconst (v := (nI 1)) (pc' := 128) C dX8_isShut_127 rfl (by decide +kernel) ?_
              refine j_goto C 132 dX8_isShut_128 (by decide) ?_
              refine j_b1_ne (pc' := 135) C 139 dX8_isShut_132 (by decide) rfl (fun c132 => ?_) (fun c132 => ?_)
              · refine j_iconst (v := (nI 0)) (pc' := 140) C dX8_isShut_139 rfl (by decide +kernel) ?_
                refine j_top (bI false) (by decide +kernel) ?_
                exact j_iret C hr hk hA dX8_isShut_140 (nrw_bI _) (⟨rfl, by unfold shB; simp_all <;> exact bI_f (by omega)⟩)
              · refine j_iconst (v := (nI 1)) (pc' := 136) C dX8_isShut_135 rfl (by decide +kernel) ?_
                refine j_goto C 140 dX8_isShut_136 (by decide) ?_
                refine j_top (bI true) (by decide +kernel) ?_
                exact j_iret C hr hk hA dX8_isShut_140 (nrw_bI _) (⟨rfl, by unfold shB; simp_all <;> exact bI_f (by omega)⟩)
      · refine j_iload_n (pc' := 66) C dX8_isShut_65 rfl 3 rfl ?_
        refine j_aload_n (pc' := 67) C dX8_isShut_66 rfl 1 rfl ?_
        refine j_get (v := .ref aT) (pc' := 70) C KX8 0 8 rfl (by decide) fl_X8_13 rfl rfl dX8_isShut_67 rfl ?_
        refine j_bipush (v := (nI 30)) (pc' := 72) C dX8_isShut_70 rfl (by decide +kernel) ?_
        refine j_iload_n (pc' := 73) C dX8_isShut_72 rfl 2 rfl ?_
        refine j_iadd (v := (nI (30 + c))) (pc' := 74) C dX8_isShut_73 rfl (nI_add 30 c) ?_
        refine j_nald (pc' := 75) C 1 rfl (by omega) (by decide) dX8_isShut_74 rfl ?_
        refine j_cSi (As := [.int (nI st), .int (nI (t (30 + c)))]) (wr := [(a0, .inr (8, [.int th, .ref aX, .int ty, .int sp, .int tk, .int pl, .int va, .int fa, .ref aT, .ref aD, .ref aS, .ref aU, .int um, .ref aK, .ref aI, .ref aL, .ref aE, .ref aF, .int sm, .ref aP, .ref aW, .int sn, .ref aB, .ref aM])), (aT, .inl (cyI, 42, .inl (nA t))), (aS, .inl (cyI, 30, .inl (nA s)))]) (pc' := 78) C (c_X8_has (a := st) (k := t (30 + c)) (ha := by omega) (hk9 := by omega)) Y_X8_has (ml_X8_130) [] [0, 1, 2] rfl rfl rfl rfl (by decide) dX8_isShut_75 rfl rfl rfl (Nat.le_of_ble_eq_true rfl) ⟨Nat.le_of_ble_eq_true rfl, Nat.le_of_ble_eq_true rfl⟩ ⟨Nat.le_of_ble_eq_true rfl, Nat.le_of_ble_eq_true rfl⟩ ⟨rfl, rfl⟩ (fun r2 w1 hQ => ?_)
        obtain ⟨rfl, rfl⟩ := hQ
        refine j_perm [(a0, .inr (8, [.int th, .ref aX, .int ty, .int sp, .int tk, .int pl, .int va, .int fa, .ref aT, .ref aD, .ref aS, .ref aU, .int um, .ref aK, .ref aI, .ref aL, .ref aE, .ref aF, .int sm, .ref aP, .ref aW, .int sn, .ref aB, .ref aM])), (aT, .inl (cyI, 42, .inl (nA t))), (aS, .inl (cyI, 30, .inl (nA s)))] [0, 1, 2] rfl rfl (by decide) ?_
        refine j_b_ne (pc' := 81) C 85 dX8_isShut_78 (by decide) rfl (fun c78 => ?_) (fun c78 => ?_)
        · refine j_iconst (v := (nI 0)) (pc' := 86) C dX8_isShut_85 rfl (by decide +kernel) ?_
          refine j_istore (pc' := 88) C [(4, .int (nI 0)), (3, .int (nI (t (3 + c)))), (0, .ref a0), (1, .int (nI c)), (2, .int (nI st))] dX8_isShut_86 rfl (by decide) rfl ?_
          refine j_aload_n (pc' := 89) C dX8_isShut_88 rfl 2 rfl ?_
          refine j_get (v := .ref aS) (pc' := 92) C KX8 0 10 rfl (by decide) fl_X8_19 rfl rfl dX8_isShut_89 rfl ?_
          refine j_iconst (v := (nI 3)) (pc' := 93) C dX8_isShut_92 rfl (by decide +kernel) ?_
          refine j_iload_n (pc' := 94) C dX8_isShut_93 rfl 3 rfl ?_
          refine j_iadd (v := (nI (3 + c))) (pc' := 95) C dX8_isShut_94 rfl (nI_add 3 c) ?_
          refine j_nald (pc' := 96) C 2 rfl (by omega) (by decide) dX8_isShut_95 rfl ?_
          refine j_istore (pc' := 98) C [(5, .int (nI (s (3 + c)))), (4, .int (nI 0)), (3, .int (nI (t (3 + c)))), (0, .ref a0), (1, .int (nI c)), (2, .int (nI st))] dX8_isShut_96 rfl (by decide) rfl ?_
          refine j_iload (pc' := 100) C dX8_isShut_98 rfl 1 rfl ?_
          refine j_nz_eq (pc' := 103) C 139 dX8_isShut_100 (by decide) rfl (by omega) (fun c100 => ?_) (fun c100 => ?_)
          · refine j_iconst (v := (nI 0)) (pc' := 140) C dX8_isShut_139 rfl (by decide +kernel) ?_
            refine j_top (bI false) (by decide +kernel) ?_
            exact j_iret C hr hk hA dX8_isShut_140 (nrw_bI _) (⟨rfl, by unfold shB; simp_all <;> exact bI_f (by omega)⟩)
          · exact absurd c100 (by decide)
        · refine j_iconst (v := (nI 1)) (pc' := 82) C dX8_isShut_81 rfl (by decide +kernel) ?_
          refine j_goto C 86 dX8_isShut_82 (by decide) ?_
          refine j_istore (pc' := 88) C [(4, .int (nI 1)), (3, .int (nI (t (3 + c)))), (0, .ref a0), (1, .int (nI c)), (2, .int (nI st))] dX8_isShut_86 rfl (by decide) rfl ?_
          refine j_aload_n (pc' := 89) C dX8_isShut_88 rfl 2 rfl ?_
          refine j_get (v := .ref aS) (pc' := 92) C KX8 0 10 rfl (by decide) fl_X8_19 rfl rfl dX8_isShut_89 rfl ?_
          refine j_iconst (v := (nI 3)) (pc' := 93) C dX8_isShut_92 rfl (by decide +kernel) ?_
          refine j_iload_n (pc' := 94) C dX8_isShut_93 rfl 3 rfl ?_
          refine j_iadd (v := (nI (3 + c))) (pc' := 95) C dX8_isShut_94 rfl (nI_add 3 c) ?_
          refine j_nald (pc' := 96) C 2 rfl (by omega) (by decide) dX8_isShut_95 rfl ?_
          refine j_istore (pc' := 98) C [(5, .int (nI (s (3 + c)))), (4, .int (nI 1)), (3, .int (nI (t (3 + c)))), (0, .ref a0), (1, .int (nI c)), (2, .int (nI st))] dX8_isShut_96 rfl (by decide) rfl ?_
          refine j_iload (pc' := 100) C dX8_isShut_98 rfl 1 rfl ?_
          refine j_nz_eq (pc' := 103) C 139 dX8_isShut_100 (by decide) rfl (by omega) (fun c100 => ?_) (fun c100 => ?_)
          · exact absurd c100 (by decide)
          · refine j_iload (pc' := 105) C dX8_isShut_103 rfl 0 rfl ?_
            refine j_iconst (v := (nI 1)) (pc' := 106) C dX8_isShut_105 rfl (by decide +kernel) ?_
            refine j_nc_gt (pc' := 109) C 135 dX8_isShut_106 (by decide) rfl (by omega) (by omega) (fun c106 => ?_) (fun c106 => ?_)
            · refine j_iconst (v := (nI 1)) (pc' := 136) C dX8_isShut_135 rfl (by decide +kernel) ?_
              refine j_goto C 140 dX8_isShut_136 (by decide) ?_
              refine j_top (bI true) (by decide +kernel) ?_
              exact j_iret C hr hk hA dX8_isShut_140 (nrw_bI _) (⟨rfl, by unfold shB; simp_all <;> exact bI_f (by omega)⟩)
            · refine j_iload_n (pc' := 110) C dX8_isShut_109 rfl 5 rfl ?_
              refine j_aload_n (pc' := 111) C dX8_isShut_110 rfl 3 rfl ?_
              refine j_get (v := .ref aS) (pc' := 114) C KX8 0 10 rfl (by decide) fl_X8_19 rfl rfl dX8_isShut_111 rfl ?_
              refine j_bipush (v := (nI 12)) (pc' := 116) C dX8_isShut_114 rfl (by decide +kernel) ?_
              refine j_iload_n (pc' := 117) C dX8_isShut_116 rfl 4 rfl ?_
              refine j_iadd (v := (nI (12 + c))) (pc' := 118) C dX8_isShut_117 rfl (nI_add 12 c) ?_
              refine j_nald (pc' := 119) C 2 rfl (by omega) (by decide) dX8_isShut_118 rfl ?_
              refine j_cSi (As := [.int (nI st), .int (nI (s (12 + c)))]) (wr := [(a0, .inr (8, [.int th, .ref aX, .int ty, .int sp, .int tk, .int pl, .int va, .int fa, .ref aT, .ref aD, .ref aS, .ref aU, .int um, .ref aK, .ref aI, .ref aL, .ref aE, .ref aF, .int sm, .ref aP, .ref aW, .int sn, .ref aB, .ref aM])), (aT, .inl (cyI, 42, .inl (nA t))), (aS, .inl (cyI, 30, .inl (nA s)))]) (pc' := 122) C (c_X8_has (a := st) (k := s (12 + c)) (ha := by omega) (hk9 := by omega)) Y_X8_has (ml_X8_130) [] [0, 1, 2] rfl rfl rfl rfl (by decide) dX8_isShut_119 rfl rfl rfl (Nat.le_of_ble_eq_true rfl) ⟨Nat.le_of_ble_eq_true rfl, Nat.le_of_ble_eq_true rfl⟩ ⟨Nat.le_of_ble_eq_true rfl, Nat.le_of_ble_eq_true rfl⟩ ⟨rfl, rfl⟩ (fun r3 w1 hQ => ?_)
              obtain ⟨rfl, rfl⟩ := hQ
              refine j_perm [(a0, .inr (8, [.int th, .ref aX, .int ty, .int sp, .int tk, .int pl, .int va, .int fa, .ref aT, .ref aD, .ref aS, .ref aU, .int um, .ref aK, .ref aI, .ref aL, .ref aE, .ref aF, .int sm, .ref aP, .ref aW, .int sn, .ref aB, .ref aM])), (aT, .inl (cyI, 42, .inl (nA t))), (aS, .inl (cyI, 30, .inl (nA s)))] [0, 1, 2] rfl rfl (by decide) ?_
              refine j_iload (pc' := 124) C dX8_isShut_122 rfl 0 rfl ?_
              refine j_nz_ne (pc' := 127) C 131 dX8_isShut_124 (by decide) rfl (by omega) (fun c124 => ?_) (fun c124 => ?_)
              · refine j_iconst (v := (nI 0)) (pc' := 132) C dX8_isShut_131 rfl (by decide +kernel) ?_
                refine j_b0_ne (pc' := 135) C 139 dX8_isShut_132 (by decide) rfl (fun c132 => ?_) (fun c132 => ?_)
                · refine j_iconst (v := (nI 0)) (pc' := 140) C dX8_isShut_139 rfl (by decide +kernel) ?_
                  refine j_top (bI false) (by decide +kernel) ?_
                  exact j_iret C hr hk hA dX8_isShut_140 (nrw_bI _) (⟨rfl, by unfold shB; simp_all <;> exact bI_f (by omega)⟩)
                · refine j_iconst (v := (nI 1)) (pc' := 136) C dX8_isShut_135 rfl (by decide +kernel) ?_
                  refine j_goto C 140 dX8_isShut_136 (by decide) ?_
                  refine j_top (bI true) (by decide +kernel) ?_
                  exact j_iret C hr hk hA dX8_isShut_140 (nrw_bI _) (⟨rfl, by unfold shB; simp_all <;> exact bI_f (by omega)⟩)
              · refine j_iconst (v := (nI 1)) (pc' := 128) C dX8_isShut_127 rfl (by decide +kernel) ?_
                refine j_goto C 132 dX8_isShut_128 (by decide) ?_
                refine j_b1_ne (pc' := 135) C 139 dX8_isShut_132 (by decide) rfl (fun c132 => ?_) (fun c132 => ?_)
                · refine j_iconst (v := (nI 0)) (pc' := 140) C dX8_isShut_139 rfl (by decide +kernel) ?_
                  refine j_top (bI false) (by decide +kernel) ?_
                  exact j_iret C hr hk hA dX8_isShut_140 (nrw_bI _) (⟨rfl, by unfold shB; simp_all <;> exact bI_f (by omega)⟩)
                · refine j_iconst (v := (nI 1)) (pc' := 136) C dX8_isShut_135 rfl (by decide +kernel) ?_
                  refine j_goto C 140 dX8_isShut_136 (by decide) ?_
                  refine j_top (bI true) (by decide +kernel) ?_
                  exact j_iret C hr hk hA dX8_isShut_140 (nrw_bI _) (⟨rfl, by unfold shB; simp_all <;> exact bI_f (by omega)⟩)
    · refine j_iload_n (pc' := 45) C dX8_isShut_44 rfl 3 rfl ?_
      refine j_aload_n (pc' := 46) C dX8_isShut_45 rfl 1 rfl ?_
      refine j_get (v := .ref aT) (pc' := 49) C KX8 0 8 rfl (by decide) fl_X8_13 rfl rfl dX8_isShut_46 rfl ?_
      refine j_bipush (v := (nI 30)) (pc' := 51) C dX8_isShut_49 rfl (by decide +kernel) ?_
      refine j_iload_n (pc' := 52) C dX8_isShut_51 rfl 2 rfl ?_
      refine j_iadd (v := (nI (30 + c))) (pc' := 53) C dX8_isShut_52 rfl (nI_add 30 c) ?_
      refine j_nald (pc' := 54) C 1 rfl (by omega) (by decide) dX8_isShut_53 rfl ?_
      refine j_cSi (As := [.int (nI st), .int (nI (t (30 + c)))]) (wr := [(a0, .inr (8, [.int th, .ref aX, .int ty, .int sp, .int tk, .int pl, .int va, .int fa, .ref aT, .ref aD, .ref aS, .ref aU, .int um, .ref aK, .ref aI, .ref aL, .ref aE, .ref aF, .int sm, .ref aP, .ref aW, .int sn, .ref aB, .ref aM])), (aT, .inl (cyI, 42, .inl (nA t))), (aS, .inl (cyI, 30, .inl (nA s)))]) (pc' := 57) C (c_X8_has (a := st) (k := t (30 + c)) (ha := by omega) (hk9 := by omega)) Y_X8_has (ml_X8_130) [] [0, 1, 2] rfl rfl rfl rfl (by decide) dX8_isShut_54 rfl rfl rfl (Nat.le_of_ble_eq_true rfl) ⟨Nat.le_of_ble_eq_true rfl, Nat.le_of_ble_eq_true rfl⟩ ⟨Nat.le_of_ble_eq_true rfl, Nat.le_of_ble_eq_true rfl⟩ ⟨rfl, rfl⟩ (fun r4 w1 hQ => ?_)
      obtain ⟨rfl, rfl⟩ := hQ
      refine j_perm [(a0, .inr (8, [.int th, .ref aX, .int ty, .int sp, .int tk, .int pl, .int va, .int fa, .ref aT, .ref aD, .ref aS, .ref aU, .int um, .ref aK, .ref aI, .ref aL, .ref aE, .ref aF, .int sm, .ref aP, .ref aW, .int sn, .ref aB, .ref aM])), (aT, .inl (cyI, 42, .inl (nA t))), (aS, .inl (cyI, 30, .inl (nA s)))] [0, 1, 2] rfl rfl (by decide) ?_
      refine j_goto C 86 dX8_isShut_57 (by decide) ?_
      refine j_istore (pc' := 88) C [(4, .int (bI (st.testBit (t (30 + c))))), (3, .int (nI (t (3 + c)))), (0, .ref a0), (1, .int (nI c)), (2, .int (nI st))] dX8_isShut_86 rfl (by decide) rfl ?_
      refine j_aload_n (pc' := 89) C dX8_isShut_88 rfl 2 rfl ?_
      refine j_get (v := .ref aS) (pc' := 92) C KX8 0 10 rfl (by decide) fl_X8_19 rfl rfl dX8_isShut_89 rfl ?_
      refine j_iconst (v := (nI 3)) (pc' := 93) C dX8_isShut_92 rfl (by decide +kernel) ?_
      refine j_iload_n (pc' := 94) C dX8_isShut_93 rfl 3 rfl ?_
      refine j_iadd (v := (nI (3 + c))) (pc' := 95) C dX8_isShut_94 rfl (nI_add 3 c) ?_
      refine j_nald (pc' := 96) C 2 rfl (by omega) (by decide) dX8_isShut_95 rfl ?_
      refine j_istore (pc' := 98) C [(5, .int (nI (s (3 + c)))), (4, .int (bI (st.testBit (t (30 + c))))), (3, .int (nI (t (3 + c)))), (0, .ref a0), (1, .int (nI c)), (2, .int (nI st))] dX8_isShut_96 rfl (by decide) rfl ?_
      refine j_iload (pc' := 100) C dX8_isShut_98 rfl 1 rfl ?_
      refine j_b_eq (pc' := 103) C 139 dX8_isShut_100 (by decide) rfl (fun c100 => ?_) (fun c100 => ?_)
      · refine j_iconst (v := (nI 0)) (pc' := 140) C dX8_isShut_139 rfl (by decide +kernel) ?_
        refine j_top (bI false) (by decide +kernel) ?_
        exact j_iret C hr hk hA dX8_isShut_140 (nrw_bI _) (⟨rfl, by unfold shB; simp_all <;> exact bI_f (by omega)⟩)
      · refine j_iload (pc' := 105) C dX8_isShut_103 rfl 0 rfl ?_
        refine j_iconst (v := (nI 1)) (pc' := 106) C dX8_isShut_105 rfl (by decide +kernel) ?_
        refine j_nc_gt (pc' := 109) C 135 dX8_isShut_106 (by decide) rfl (by omega) (by omega) (fun c106 => ?_) (fun c106 => ?_)
        · refine j_iconst (v := (nI 1)) (pc' := 136) C dX8_isShut_135 rfl (by decide +kernel) ?_
          refine j_goto C 140 dX8_isShut_136 (by decide) ?_
          refine j_top (bI true) (by decide +kernel) ?_
          exact j_iret C hr hk hA dX8_isShut_140 (nrw_bI _) (⟨rfl, by unfold shB; simp_all <;> exact bI_f (by omega)⟩)
        · refine j_iload_n (pc' := 110) C dX8_isShut_109 rfl 5 rfl ?_
          refine j_aload_n (pc' := 111) C dX8_isShut_110 rfl 3 rfl ?_
          refine j_get (v := .ref aS) (pc' := 114) C KX8 0 10 rfl (by decide) fl_X8_19 rfl rfl dX8_isShut_111 rfl ?_
          refine j_bipush (v := (nI 12)) (pc' := 116) C dX8_isShut_114 rfl (by decide +kernel) ?_
          refine j_iload_n (pc' := 117) C dX8_isShut_116 rfl 4 rfl ?_
          refine j_iadd (v := (nI (12 + c))) (pc' := 118) C dX8_isShut_117 rfl (nI_add 12 c) ?_
          refine j_nald (pc' := 119) C 2 rfl (by omega) (by decide) dX8_isShut_118 rfl ?_
          refine j_cSi (As := [.int (nI st), .int (nI (s (12 + c)))]) (wr := [(a0, .inr (8, [.int th, .ref aX, .int ty, .int sp, .int tk, .int pl, .int va, .int fa, .ref aT, .ref aD, .ref aS, .ref aU, .int um, .ref aK, .ref aI, .ref aL, .ref aE, .ref aF, .int sm, .ref aP, .ref aW, .int sn, .ref aB, .ref aM])), (aT, .inl (cyI, 42, .inl (nA t))), (aS, .inl (cyI, 30, .inl (nA s)))]) (pc' := 122) C (c_X8_has (a := st) (k := s (12 + c)) (ha := by omega) (hk9 := by omega)) Y_X8_has (ml_X8_130) [] [0, 1, 2] rfl rfl rfl rfl (by decide) dX8_isShut_119 rfl rfl rfl (Nat.le_of_ble_eq_true rfl) ⟨Nat.le_of_ble_eq_true rfl, Nat.le_of_ble_eq_true rfl⟩ ⟨Nat.le_of_ble_eq_true rfl, Nat.le_of_ble_eq_true rfl⟩ ⟨rfl, rfl⟩ (fun r5 w1 hQ => ?_)
          obtain ⟨rfl, rfl⟩ := hQ
          refine j_perm [(a0, .inr (8, [.int th, .ref aX, .int ty, .int sp, .int tk, .int pl, .int va, .int fa, .ref aT, .ref aD, .ref aS, .ref aU, .int um, .ref aK, .ref aI, .ref aL, .ref aE, .ref aF, .int sm, .ref aP, .ref aW, .int sn, .ref aB, .ref aM])), (aT, .inl (cyI, 42, .inl (nA t))), (aS, .inl (cyI, 30, .inl (nA s)))] [0, 1, 2] rfl rfl (by decide) ?_
          refine j_iload (pc' := 124) C dX8_isShut_122 rfl 0 rfl ?_
          refine j_nz_ne (pc' := 127) C 131 dX8_isShut_124 (by decide) rfl (by omega) (fun c124 => ?_) (fun c124 => ?_)
          · refine j_iconst (v := (nI 0)) (pc' := 132) C dX8_isShut_131 rfl (by decide +kernel) ?_
            refine j_b0_ne (pc' := 135) C 139 dX8_isShut_132 (by decide) rfl (fun c132 => ?_) (fun c132 => ?_)
            · refine j_iconst (v := (nI 0)) (pc' := 140) C dX8_isShut_139 rfl (by decide +kernel) ?_
              refine j_top (bI false) (by decide +kernel) ?_
              exact j_iret C hr hk hA dX8_isShut_140 (nrw_bI _) (⟨rfl, by unfold shB; simp_all <;> exact bI_f (by omega)⟩)
            · refine j_iconst (v := (nI 1)) (pc' := 136) C dX8_isShut_135 rfl (by decide +kernel) ?_
              refine j_goto C 140 dX8_isShut_136 (by decide) ?_
              refine j_top (bI true) (by decide +kernel) ?_
              exact j_iret C hr hk hA dX8_isShut_140 (nrw_bI _) (⟨rfl, by unfold shB; simp_all <;> exact bI_f (by omega)⟩)
          · refine j_iconst (v := (nI 1)) (pc' := 128) C dX8_isShut_127 rfl (by decide +kernel) ?_
            refine j_goto C 132 dX8_isShut_128 (by decide) ?_
            refine j_b1_ne (pc' := 135) C 139 dX8_isShut_132 (by decide) rfl (fun c132 => ?_) (fun c132 => ?_)
            · refine j_iconst (v := (nI 0)) (pc' := 140) C dX8_isShut_139 rfl (by decide +kernel) ?_
              refine j_top (bI false) (by decide +kernel) ?_
              exact j_iret C hr hk hA dX8_isShut_140 (nrw_bI _) (⟨rfl, by unfold shB; simp_all <;> exact bI_f (by omega)⟩)
            · refine j_iconst (v := (nI 1)) (pc' := 136) C dX8_isShut_135 rfl (by decide +kernel) ?_
              refine j_goto C 140 dX8_isShut_136 (by decide) ?_
              refine j_top (bI true) (by decide +kernel) ?_
              exact j_iret C hr hk hA dX8_isShut_140 (nrw_bI _) (⟨rfl, by unfold shB; simp_all <;> exact bI_f (by omega)⟩)
  · refine j_aload_n (pc' := 13) C dX8_isShut_12 rfl 0 rfl ?_
    refine j_get (v := .ref aS) (pc' := 16) C KX8 0 10 rfl (by decide) fl_X8_19 rfl rfl dX8_isShut_13 rfl ?_
    refine j_bipush (v := (nI 21)) (pc' := 18) C dX8_isShut_16 rfl (by decide +kernel) ?_
    refine j_iload_n (pc' := 19) C dX8_isShut_18 rfl 1 rfl ?_
    refine j_iadd (v := (nI (21 + c))) (pc' := 20) C dX8_isShut_19 rfl (nI_add 21 c) ?_
    refine j_nald (pc' := 21) C 2 rfl (by omega) (by decide) dX8_isShut_20 rfl ?_
    refine j_iconst (v := (nI 2)) (pc' := 22) C dX8_isShut_21 rfl (by decide +kernel) ?_
    refine j_nc_ne (pc' := 25) C 29 dX8_isShut_22 (by decide) rfl (by omega) (by omega) (fun c22 => ?_) (fun c22 => ?_)
    · refine j_iconst (v := (nI 0)) (pc' := 30) C dX8_isShut_29 rfl (by decide +kernel) ?_
      refine j_top (bI false) (by decide +kernel) ?_
      exact j_iret C hr hk hA dX8_isShut_30 (nrw_bI _) (⟨rfl, by unfold shB; simp [*]⟩)
    · refine j_iconst (v := (nI 1)) (pc' := 26) C dX8_isShut_25 rfl (by decide +kernel) ?_
      refine j_goto C 30 dX8_isShut_26 (by decide) ?_
      refine j_top (bI true) (by decide +kernel) ?_
      exact j_iret C hr hk hA dX8_isShut_30 (nrw_bI _) (⟨rfl, by unfold shB; simp [*]⟩)

set_option maxHeartbeats 4000000 in
set_option maxRecDepth 100000 in
theorem c_X8_isWay {lch : Launch} {dG : va_G} {cyI cyZ cyO : ClassId} (a0 : Nat) (th : Int32) (aX : Nat) (ty : Int32) (sp : Int32) (tk : Int32) (pl : Int32) (va : Int32) (fa : Int32) (aT : Nat) (aD : Nat) (aS : Nat) (aU : Nat) (um : Int32) (aK : Nat) (aI : Nat) (aL : Nat) (aE : Nat) (aF : Nat) (sm : Int32) (aP : Nat) (aW : Nat) (sn : Int32) (aB : Nat) (aM : Nat) (t : Nat → Nat) (s : Nat → Nat) (c : Nat) (bk : Bool) (hT : WT t) (hS : WS s) (hc : c < t 1) : Ki lch yX8_isWay cX8_isWay 3 .boolean (rmk 2) dG (cyI, cyZ, cyO) [.ref a0, .int (nI c), .int (bI bk)] [(a0, .inr (8, [.int th, .ref aX, .int ty, .int sp, .int tk, .int pl, .int va, .int fa, .ref aT, .ref aD, .ref aS, .ref aU, .int um, .ref aK, .ref aI, .ref aL, .ref aE, .ref aF, .int sm, .ref aP, .ref aW, .int sn, .ref aB, .ref aM])), (aT, .inl (cyI, 42, .inl (nA t))), (aS, .inl (cyI, 30, .inl (nA s)))] (fun r w1 => w1 = [(a0, .inr (8, [.int th, .ref aX, .int ty, .int sp, .int tk, .int pl, .int va, .int fa, .ref aT, .ref aD, .ref aS, .ref aU, .int um, .ref aK, .ref aI, .ref aL, .ref aE, .ref aF, .int sm, .ref aP, .ref aW, .int sn, .ref aB, .ref aM])), (aT, .inl (cyI, 42, .inl (nA t))), (aS, .inl (cyI, 30, .inl (nA s)))] ∧ r = (bI (wyB t s c bk))) := by
  have h1 := hT.n
  have h2 := hT.c hc
  have h3 := hS.c (c := c) (by omega)
  refine Ki.of (own := RX8) rfl (by decide) (Nat.le_of_ble_eq_true rfl) (fun p0 e0 s0 m0 ar0 be0 me0 cd0 A0 C hr hk hnm hA => ?_)
  refine j_lsub [(0, .ref a0), (1, .int (nI c)), (2, .int (bI bk))] [0, 1, 2] rfl ?_
  refine j_aload_n (pc' := 1) C dX8_isWay_0 rfl 0 rfl ?_
  refine j_get (v := .ref aS) (pc' := 4) C KX8 0 10 rfl (by decide) fl_X8_19 rfl rfl dX8_isWay_1 rfl ?_
  refine j_bipush (v := (nI 21)) (pc' := 6) C dX8_isWay_4 rfl (by decide +kernel) ?_
  refine j_iload_n (pc' := 7) C dX8_isWay_6 rfl 1 rfl ?_
  refine j_iadd (v := (nI (21 + c))) (pc' := 8) C dX8_isWay_7 rfl (nI_add 21 c) ?_
  refine j_nald (pc' := 9) C 2 rfl (by omega) (by decide) dX8_isWay_8 rfl ?_
  refine j_nz_eq (pc' := 12) C 31 dX8_isWay_9 (by decide) rfl (by omega) (fun c9 => ?_) (fun c9 => ?_)
  · refine j_iload_n (pc' := 32) C dX8_isWay_31 rfl 2 rfl ?_
    refine j_b_eq (pc' := 35) C 67 dX8_isWay_32 (by decide) rfl (fun c32 => ?_) (fun c32 => ?_)
    · refine j_aload_n (pc' := 68) C dX8_isWay_67 rfl 0 rfl ?_
      refine j_get (v := .ref aS) (pc' := 71) C KX8 0 10 rfl (by decide) fl_X8_19 rfl rfl dX8_isWay_68 rfl ?_
      refine j_iconst (v := (nI 3)) (pc' := 72) C dX8_isWay_71 rfl (by decide +kernel) ?_
      refine j_iload_n (pc' := 73) C dX8_isWay_72 rfl 1 rfl ?_
      refine j_iadd (v := (nI (3 + c))) (pc' := 74) C dX8_isWay_73 rfl (nI_add 3 c) ?_
      refine j_nald (pc' := 75) C 2 rfl (by omega) (by decide) dX8_isWay_74 rfl ?_
      refine j_iconst (v := (nI 3)) (pc' := 76) C dX8_isWay_75 rfl (by decide +kernel) ?_
      refine j_nc_eq (pc' := 79) C 83 dX8_isWay_76 (by decide) rfl (by omega) (by omega) (fun c76 => ?_) (fun c76 => ?_)
      · refine j_iconst (v := (nI 0)) (pc' := 84) C dX8_isWay_83 rfl (by decide +kernel) ?_
        refine j_top (bI false) (by decide +kernel) ?_
        exact j_iret C hr hk hA dX8_isWay_84 (nrw_bI _) (⟨rfl, by unfold wyB; simp_all⟩)
      · refine j_iconst (v := (nI 1)) (pc' := 80) C dX8_isWay_79 rfl (by decide +kernel) ?_
        refine j_goto C 84 dX8_isWay_80 (by decide) ?_
        refine j_top (bI true) (by decide +kernel) ?_
        exact j_iret C hr hk hA dX8_isWay_84 (nrw_bI _) (⟨rfl, by unfold wyB; simp_all⟩)
    · refine j_aload_n (pc' := 36) C dX8_isWay_35 rfl 0 rfl ?_
      refine j_get (v := .ref aT) (pc' := 39) C KX8 0 8 rfl (by decide) fl_X8_13 rfl rfl dX8_isWay_36 rfl ?_
      refine j_iconst (v := (nI 3)) (pc' := 40) C dX8_isWay_39 rfl (by decide +kernel) ?_
      refine j_iload_n (pc' := 41) C dX8_isWay_40 rfl 1 rfl ?_
      refine j_iadd (v := (nI (3 + c))) (pc' := 42) C dX8_isWay_41 rfl (nI_add 3 c) ?_
      refine j_nald (pc' := 43) C 1 rfl (by omega) (by decide) dX8_isWay_42 rfl ?_
      refine j_iconst (v := (nI 3)) (pc' := 44) C dX8_isWay_43 rfl (by decide +kernel) ?_
      refine j_nc_eq (pc' := 47) C 63 dX8_isWay_44 (by decide) rfl (by omega) (by omega) (fun c44 => ?_) (fun c44 => ?_)
      · refine j_iconst (v := (nI 0)) (pc' := 64) C dX8_isWay_63 rfl (by decide +kernel) ?_
        refine j_goto C 84 dX8_isWay_64 (by decide) ?_
        refine j_top (bI false) (by decide +kernel) ?_
        exact j_iret C hr hk hA dX8_isWay_84 (nrw_bI _) (⟨rfl, by unfold wyB; simp_all⟩)
      · refine j_aload_n (pc' := 48) C dX8_isWay_47 rfl 0 rfl ?_
        refine j_get (v := .ref aS) (pc' := 51) C KX8 0 10 rfl (by decide) fl_X8_19 rfl rfl dX8_isWay_48 rfl ?_
        refine j_iconst (v := (nI 3)) (pc' := 52) C dX8_isWay_51 rfl (by decide +kernel) ?_
        refine j_iload_n (pc' := 53) C dX8_isWay_52 rfl 1 rfl ?_
        refine j_iadd (v := (nI (3 + c))) (pc' := 54) C dX8_isWay_53 rfl (nI_add 3 c) ?_
        refine j_nald (pc' := 55) C 2 rfl (by omega) (by decide) dX8_isWay_54 rfl ?_
        refine j_iconst (v := (nI 2)) (pc' := 56) C dX8_isWay_55 rfl (by decide +kernel) ?_
        refine j_nc_eq (pc' := 59) C 63 dX8_isWay_56 (by decide) rfl (by omega) (by omega) (fun c56 => ?_) (fun c56 => ?_)
        · refine j_iconst (v := (nI 0)) (pc' := 64) C dX8_isWay_63 rfl (by decide +kernel) ?_
          refine j_goto C 84 dX8_isWay_64 (by decide) ?_
          refine j_top (bI false) (by decide +kernel) ?_
          exact j_iret C hr hk hA dX8_isWay_84 (nrw_bI _) (⟨rfl, by unfold wyB; simp_all⟩)
        · refine j_iconst (v := (nI 1)) (pc' := 60) C dX8_isWay_59 rfl (by decide +kernel) ?_
          refine j_goto C 84 dX8_isWay_60 (by decide) ?_
          refine j_top (bI true) (by decide +kernel) ?_
          exact j_iret C hr hk hA dX8_isWay_84 (nrw_bI _) (⟨rfl, by unfold wyB; simp_all⟩)
  · refine j_aload_n (pc' := 13) C dX8_isWay_12 rfl 0 rfl ?_
    refine j_get (v := .ref aS) (pc' := 16) C KX8 0 10 rfl (by decide) fl_X8_19 rfl rfl dX8_isWay_13 rfl ?_
    refine j_bipush (v := (nI 21)) (pc' := 18) C dX8_isWay_16 rfl (by decide +kernel) ?_
    refine j_iload_n (pc' := 19) C dX8_isWay_18 rfl 1 rfl ?_
    refine j_iadd (v := (nI (21 + c))) (pc' := 20) C dX8_isWay_19 rfl (nI_add 21 c) ?_
    refine j_nald (pc' := 21) C 2 rfl (by omega) (by decide) dX8_isWay_20 rfl ?_
    refine j_iconst (v := (nI 2)) (pc' := 22) C dX8_isWay_21 rfl (by decide +kernel) ?_
    refine j_nc_ne (pc' := 25) C 29 dX8_isWay_22 (by decide) rfl (by omega) (by omega) (fun c22 => ?_) (fun c22 => ?_)
    · refine j_iconst (v := (nI 0)) (pc' := 30) C dX8_isWay_29 rfl (by decide +kernel) ?_
      refine j_top (bI false) (by decide +kernel) ?_
      exact j_iret C hr hk hA dX8_isWay_30 (nrw_bI _) (⟨rfl, by unfold wyB; simp_all⟩)
    · refine j_iconst (v := (nI 1)) (pc' := 26) C dX8_isWay_25 rfl (by decide +kernel) ?_
      refine j_goto C 30 dX8_isWay_26 (by decide) ?_
      refine j_top (bI true) (by decide +kernel) ?_
      exact j_iret C hr hk hA dX8_isWay_30 (nrw_bI _) (⟨rfl, by unfold wyB; simp_all⟩)

set_option maxHeartbeats 4000000 in
set_option maxRecDepth 100000 in
theorem c_X8_live {lch : Launch} {dG : va_G} {cyI cyZ cyO : ClassId} (a0 : Nat) (th : Int32) (aX : Nat) (ty : Int32) (sp : Int32) (tk : Int32) (pl : Int32) (va : Int32) (fa : Int32) (aT : Nat) (aD : Nat) (aS : Nat) (aU : Nat) (um : Int32) (aK : Nat) (aI : Nat) (aL : Nat) (aE : Nat) (aF : Nat) (sm : Int32) (aP : Nat) (aW : Nat) (sn : Int32) (aB : Nat) (aM : Nat) (t : Nat → Nat) (s : Nat → Nat) (st : Nat) (wo : Nat) (hT : WT t) (hS : WS s) (hst : st < 16) (hwo : wo < 512) : Ki lch yX8_live cX8_live 8 .int (rmk 3) dG (cyI, cyZ, cyO) [.ref a0, .int (nI st), .int (nI wo)] [(a0, .inr (8, [.int th, .ref aX, .int ty, .int sp, .int tk, .int pl, .int va, .int fa, .ref aT, .ref aD, .ref aS, .ref aU, .int um, .ref aK, .ref aI, .ref aL, .ref aE, .ref aF, .int sm, .ref aP, .ref aW, .int sn, .ref aB, .ref aM])), (aT, .inl (cyI, 42, .inl (nA t))), (aS, .inl (cyI, 30, .inl (nA s)))] (fun r w1 => w1 = [(a0, .inr (8, [.int th, .ref aX, .int ty, .int sp, .int tk, .int pl, .int va, .int fa, .ref aT, .ref aD, .ref aS, .ref aU, .int um, .ref aK, .ref aI, .ref aL, .ref aE, .ref aF, .int sm, .ref aP, .ref aW, .int sn, .ref aB, .ref aM])), (aT, .inl (cyI, 42, .inl (nA t))), (aS, .inl (cyI, 30, .inl (nA s)))] ∧ r = (nI (lvR t s st wo (t 0)))) := by
  have h1 := hT.n
  refine Ki.of (own := RX8) rfl (by decide) (Nat.le_of_ble_eq_true rfl) (fun p0 e0 s0 m0 ar0 be0 me0 cd0 A0 C hr hk hnm hA => ?_)
  refine j_lsub [(0, .ref a0), (1, .int (nI st)), (2, .int (nI wo))] [0, 1, 2] rfl ?_
  refine j_iconst (v := (nI 1)) (pc' := 1) C dX8_live_0 rfl (by decide +kernel) ?_
  refine j_istore_n (pc' := 2) C [(3, .int (nI 1)), (0, .ref a0), (1, .int (nI st)), (2, .int (nI wo))] dX8_live_1 rfl (by decide) rfl ?_
  refine j_iconst (v := (nI 0)) (pc' := 3) C dX8_live_2 rfl (by decide +kernel) ?_
  refine j_istore (pc' := 5) C [(4, .int (nI 0)), (3, .int (nI 1)), (0, .ref a0), (1, .int (nI st)), (2, .int (nI wo))] dX8_live_3 rfl (by decide) rfl ?_
  refine j_lsub [(0, .ref a0), (1, .int (nI st)), (2, .int (nI wo)), (3, .int (nI 1)), (4, .int (nI 0))] [2, 3, 4, 1, 0] rfl ?_
  refine j_loop2 (fun (k : Nat) (z : Nat) => [(a0, .inr (8, [.int th, .ref aX, .int ty, .int sp, .int tk, .int pl, .int va, .int fa, .ref aT, .ref aD, .ref aS, .ref aU, .int um, .ref aK, .ref aI, .ref aL, .ref aE, .ref aF, .int sm, .ref aP, .ref aW, .int sn, .ref aB, .ref aM])), (aT, .inl (cyI, 42, .inl (nA t))), (aS, .inl (cyI, 30, .inl (nA s)))]) (fun (k : Nat) (z : Nat) => [(0, .ref a0), (1, .int (nI st)), (2, .int (nI wo)), (3, .int (nI z)), (4, .int (nI k))]) (fun (k : Nat) (z : Nat) => []) (fun (k : Nat) (z : Nat) => k ≤ t 0 ∧ z = lvR t s st wo k) (fun (k : Nat) (z : Nat) => t 0 - k) ?_ 0 1 ?_
  · intro k z hI5 ih5
    obtain ⟨hk0, hz⟩ := hI5
    refine j_iload (pc' := 7) C dX8_live_5 rfl 4 rfl ?_
    refine j_aload_n (pc' := 8) C dX8_live_7 rfl 0 rfl ?_
    refine j_get (v := .ref aT) (pc' := 11) C KX8 0 8 rfl (by decide) fl_X8_13 rfl rfl dX8_live_8 rfl ?_
    refine j_iconst (v := (nI 0)) (pc' := 12) C dX8_live_11 rfl (by decide +kernel) ?_
    refine j_nald (pc' := 13) C 1 rfl (by omega) (by decide) dX8_live_12 rfl ?_
    refine j_nc_ge (pc' := 16) C 145 dX8_live_13 (by decide) rfl (by omega) (by omega) (fun c13 => ?_) (fun c13 => ?_)
    · refine j_iload_n (pc' := 146) C dX8_live_145 rfl 3 rfl ?_
      exact j_iret C hr hk hA dX8_live_146 (rfl) (⟨rfl, by rw [hz, show k = t 0 by omega]⟩)
    · refine j_iconst (v := (nI 0)) (pc' := 17) C dX8_live_16 rfl (by decide +kernel) ?_
      refine j_istore (pc' := 19) C [(5, .int (nI 0)), (0, .ref a0), (1, .int (nI st)), (2, .int (nI wo)), (3, .int (nI z)), (4, .int (nI k))] dX8_live_17 rfl (by decide) rfl ?_
      refine j_lsub [(0, .ref a0), (1, .int (nI st)), (2, .int (nI wo)), (3, .int (nI z)), (4, .int (nI k)), (5, .int (nI 0))] [1, 2, 3, 4, 5, 0] rfl ?_
      refine j_loop2 (fun (c : Nat) (y : Nat) => [(a0, .inr (8, [.int th, .ref aX, .int ty, .int sp, .int tk, .int pl, .int va, .int fa, .ref aT, .ref aD, .ref aS, .ref aU, .int um, .ref aK, .ref aI, .ref aL, .ref aE, .ref aF, .int sm, .ref aP, .ref aW, .int sn, .ref aB, .ref aM])), (aT, .inl (cyI, 42, .inl (nA t))), (aS, .inl (cyI, 30, .inl (nA s)))]) (fun (c : Nat) (y : Nat) => [(0, .ref a0), (1, .int (nI st)), (2, .int (nI wo)), (3, .int (nI y)), (4, .int (nI k)), (5, .int (nI c))]) (fun (c : Nat) (y : Nat) => []) (fun (c : Nat) (y : Nat) => c ≤ t 1 ∧ y = lvS t s st wo c (lvR t s st wo k)) (fun (c : Nat) (y : Nat) => t 1 - c) ?_ 0 z ?_
      · intro c y hI19 ih19
        obtain ⟨hc0, hz2⟩ := hI19
        have hz7 : y < 2 ^ 7 := by rw [hz2]; exact lvS_lt hT hc0 (lvR_lt hT k)
        refine j_iload (pc' := 21) C dX8_live_19 rfl 5 rfl ?_
        refine j_aload_n (pc' := 22) C dX8_live_21 rfl 0 rfl ?_
        refine j_get (v := .ref aT) (pc' := 25) C KX8 0 8 rfl (by decide) fl_X8_13 rfl rfl dX8_live_22 rfl ?_
        refine j_iconst (v := (nI 1)) (pc' := 26) C dX8_live_25 rfl (by decide +kernel) ?_
        refine j_nald (pc' := 27) C 1 rfl (by omega) (by decide) dX8_live_26 rfl ?_
        refine j_nc_ge (pc' := 30) C 139 dX8_live_27 (by decide) rfl (by omega) (by omega) (fun c27 => ?_) (fun c27 => ?_)
        · refine j_iinc (v := (nI (k + 1))) (pc' := 142) C [(4, .int (nI (k + 1))), (0, .ref a0), (1, .int (nI st)), (2, .int (nI wo)), (3, .int (nI y)), (5, .int (nI c))] dX8_live_139 rfl 4 rfl (inc_n k 1) (by decide) rfl ?_
          refine j_goto C 5 dX8_live_142 (by decide) ?_
          refine j_lsub [(0, .ref a0), (1, .int (nI st)), (2, .int (nI wo)), (3, .int (nI y)), (4, .int (nI (k + 1)))] [1, 2, 3, 4, 0] rfl ?_
          exact ih5 (k + 1) y (⟨by omega, by rw [lvR, hz2]; rw [show c = t 1 by omega]⟩) (by omega)
        · have h2 := hT.c c27
          have h2a := h2.2.1
          have h2b := h2.2.2.1
          refine j_iload_n (pc' := 31) C dX8_live_30 rfl 2 rfl ?_
          refine j_iload (pc' := 33) C dX8_live_31 rfl 5 rfl ?_
          refine j_cSi (As := [.int (nI wo), .int (nI c)]) (wr := [(a0, .inr (8, [.int th, .ref aX, .int ty, .int sp, .int tk, .int pl, .int va, .int fa, .ref aT, .ref aD, .ref aS, .ref aU, .int um, .ref aK, .ref aI, .ref aL, .ref aE, .ref aF, .int sm, .ref aP, .ref aW, .int sn, .ref aB, .ref aM])), (aT, .inl (cyI, 42, .inl (nA t))), (aS, .inl (cyI, 30, .inl (nA s)))]) (pc' := 36) C (c_X8_has (a := wo) (k := c) (ha := by first | assumption | omega) (hk9 := by first | assumption | omega)) Y_X8_has (ml_X8_130) [] [0, 1, 2] rfl rfl rfl rfl (by decide) dX8_live_33 rfl rfl rfl (Nat.le_of_ble_eq_true rfl) ⟨Nat.le_of_ble_eq_true rfl, Nat.le_of_ble_eq_true rfl⟩ ⟨Nat.le_of_ble_eq_true rfl, Nat.le_of_ble_eq_true rfl⟩ ⟨rfl, rfl⟩ (fun r1 w1 hQ => ?_)
          obtain ⟨rfl, rfl⟩ := hQ
          refine j_perm [(a0, .inr (8, [.int th, .ref aX, .int ty, .int sp, .int tk, .int pl, .int va, .int fa, .ref aT, .ref aD, .ref aS, .ref aU, .int um, .ref aK, .ref aI, .ref aL, .ref aE, .ref aF, .int sm, .ref aP, .ref aW, .int sn, .ref aB, .ref aM])), (aT, .inl (cyI, 42, .inl (nA t))), (aS, .inl (cyI, 30, .inl (nA s)))] [0, 1, 2] rfl rfl (by decide) ?_
          refine j_b_ne (pc' := 39) C 133 dX8_live_36 (by decide) rfl (fun c36 => ?_) (fun c36 => ?_)
          · refine j_iinc (v := (nI (c + 1))) (pc' := 136) C [(5, .int (nI (c + 1))), (0, .ref a0), (1, .int (nI st)), (2, .int (nI wo)), (3, .int (nI y)), (4, .int (nI k))] dX8_live_133 rfl 5 rfl (inc_n c 1) (by decide) rfl ?_
            refine j_goto C 19 dX8_live_136 (by decide) ?_
            refine j_lsub [(0, .ref a0), (1, .int (nI st)), (2, .int (nI wo)), (3, .int (nI y)), (4, .int (nI k)), (5, .int (nI (c + 1)))] [1, 2, 3, 4, 5, 0] rfl ?_
            exact ih19 (c + 1) y (⟨by omega, by rw [lvS, ← hz2]; unfold lvC lvB lvA; simp_all⟩) (by omega)
          · refine j_aload_n (pc' := 40) C dX8_live_39 rfl 0 rfl ?_
            refine j_iload (pc' := 42) C dX8_live_40 rfl 5 rfl ?_
            refine j_iload_n (pc' := 43) C dX8_live_42 rfl 1 rfl ?_
            refine j_cVi (As := [.int (nI c), .int (nI st)]) (wr := []) (pc' := 46) C (c_X8_isShut (a0 := a0) (th := th) (aX := aX) (ty := ty) (sp := sp) (tk := tk) (pl := pl) (va := va) (fa := fa) (aT := aT) (aD := aD) (aS := aS) (aU := aU) (um := um) (aK := aK) (aI := aI) (aL := aL) (aE := aE) (aF := aF) (sm := sm) (aP := aP) (aW := aW) (sn := sn) (aB := aB) (aM := aM) (t := t) (s := s) (c := c) (st := st) (hT := by first | assumption | omega) (hS := by first | assumption | omega) (hc := by first | assumption | omega) (hst := by first | assumption | omega)) Y_X8_isShut (ml_X8_133) [0, 1, 2] [] rfl rfl rfl rfl (by decide) rfl rfl rfl dX8_live_43 rfl rfl rfl (Nat.le_of_ble_eq_true rfl) ⟨Nat.le_of_ble_eq_true rfl, Nat.le_of_ble_eq_true rfl⟩ ⟨Nat.le_of_ble_eq_true rfl, Nat.le_of_ble_eq_true rfl⟩ ⟨rfl, rfl⟩ (fun r2 w1 hQ => ?_)
            obtain ⟨rfl, rfl⟩ := hQ
            refine j_b_eq (pc' := 49) C 133 dX8_live_46 (by decide) rfl (fun c46 => ?_) (fun c46 => ?_)
            · refine j_iinc (v := (nI (c + 1))) (pc' := 136) C [(5, .int (nI (c + 1))), (0, .ref a0), (1, .int (nI st)), (2, .int (nI wo)), (3, .int (nI y)), (4, .int (nI k))] dX8_live_133 rfl 5 rfl (inc_n c 1) (by decide) rfl ?_
              refine j_goto C 19 dX8_live_136 (by decide) ?_
              refine j_lsub [(0, .ref a0), (1, .int (nI st)), (2, .int (nI wo)), (3, .int (nI y)), (4, .int (nI k)), (5, .int (nI (c + 1)))] [1, 2, 3, 4, 5, 0] rfl ?_
              exact ih19 (c + 1) y (⟨by omega, by rw [lvS, ← hz2]; unfold lvC lvB lvA; simp_all⟩) (by omega)
            · refine j_aload_n (pc' := 50) C dX8_live_49 rfl 0 rfl ?_
              refine j_get (v := .ref aT) (pc' := 53) C KX8 0 8 rfl (by decide) fl_X8_13 rfl rfl dX8_live_50 rfl ?_
              refine j_bipush (v := (nI 12)) (pc' := 55) C dX8_live_53 rfl (by decide +kernel) ?_
              refine j_iload (pc' := 57) C dX8_live_55 rfl 5 rfl ?_
              refine j_iadd (v := (nI (12 + c))) (pc' := 58) C dX8_live_57 rfl (nI_add 12 c) ?_
              refine j_nald (pc' := 59) C 1 rfl (by omega) (by decide) dX8_live_58 rfl ?_
              refine j_istore (pc' := 61) C [(6, .int (nI (t (12 + c)))), (0, .ref a0), (1, .int (nI st)), (2, .int (nI wo)), (3, .int (nI y)), (4, .int (nI k)), (5, .int (nI c))] dX8_live_59 rfl (by decide) rfl ?_
              refine j_aload_n (pc' := 62) C dX8_live_61 rfl 1 rfl ?_
              refine j_get (v := .ref aT) (pc' := 65) C KX8 0 8 rfl (by decide) fl_X8_13 rfl rfl dX8_live_62 rfl ?_
              refine j_bipush (v := (nI 21)) (pc' := 67) C dX8_live_65 rfl (by decide +kernel) ?_
              refine j_iload (pc' := 69) C dX8_live_67 rfl 6 rfl ?_
              refine j_iadd (v := (nI (21 + c))) (pc' := 70) C dX8_live_69 rfl (nI_add 21 c) ?_
              refine j_nald (pc' := 71) C 1 rfl (by omega) (by decide) dX8_live_70 rfl ?_
              refine j_istore (pc' := 73) C [(7, .int (nI (t (21 + c)))), (6, .int (nI (t (12 + c)))), (0, .ref a0), (1, .int (nI st)), (2, .int (nI wo)), (3, .int (nI y)), (4, .int (nI k)), (5, .int (nI c))] dX8_live_71 rfl (by decide) rfl ?_
              refine j_iload_n (pc' := 74) C dX8_live_73 rfl 5 rfl ?_
              refine j_iload_n (pc' := 75) C dX8_live_74 rfl 5 rfl ?_
              refine j_iload (pc' := 77) C dX8_live_75 rfl 1 rfl ?_
              refine j_cSi (As := [.int (nI y), .int (nI (t (12 + c)))]) (wr := [(a0, .inr (8, [.int th, .ref aX, .int ty, .int sp, .int tk, .int pl, .int va, .int fa, .ref aT, .ref aD, .ref aS, .ref aU, .int um, .ref aK, .ref aI, .ref aL, .ref aE, .ref aF, .int sm, .ref aP, .ref aW, .int sn, .ref aB, .ref aM])), (aT, .inl (cyI, 42, .inl (nA t))), (aS, .inl (cyI, 30, .inl (nA s)))]) (pc' := 80) C (c_X8_has (a := y) (k := t (12 + c)) (ha := by omega) (hk9 := by first | assumption | omega)) Y_X8_has (ml_X8_130) [] [0, 1, 2] rfl rfl rfl rfl (by decide) dX8_live_77 rfl rfl rfl (Nat.le_of_ble_eq_true rfl) ⟨Nat.le_of_ble_eq_true rfl, Nat.le_of_ble_eq_true rfl⟩ ⟨Nat.le_of_ble_eq_true rfl, Nat.le_of_ble_eq_true rfl⟩ ⟨rfl, rfl⟩ (fun r3 w1 hQ => ?_)
              obtain ⟨rfl, rfl⟩ := hQ
              refine j_perm [(a0, .inr (8, [.int th, .ref aX, .int ty, .int sp, .int tk, .int pl, .int va, .int fa, .ref aT, .ref aD, .ref aS, .ref aU, .int um, .ref aK, .ref aI, .ref aL, .ref aE, .ref aF, .int sm, .ref aP, .ref aW, .int sn, .ref aB, .ref aM])), (aT, .inl (cyI, 42, .inl (nA t))), (aS, .inl (cyI, 30, .inl (nA s)))] [0, 1, 2] rfl rfl (by decide) ?_
              refine j_b_eq (pc' := 83) C 100 dX8_live_80 (by decide) rfl (fun c80 => ?_) (fun c80 => ?_)
              · refine j_iconst (v := (nI 0)) (pc' := 101) C dX8_live_100 rfl (by decide +kernel) ?_
                refine j_ior (v := (nI (y ||| 0))) (pc' := 102) C dX8_live_101 rfl (fa_or y 0) ?_
                refine j_istore_n (pc' := 103) C [(3, .int (nI (y ||| 0))), (7, .int (nI (t (21 + c)))), (6, .int (nI (t (12 + c)))), (0, .ref a0), (1, .int (nI st)), (2, .int (nI wo)), (4, .int (nI k)), (5, .int (nI c))] dX8_live_102 rfl (by decide) rfl ?_
                refine j_iload_n (pc' := 104) C dX8_live_103 rfl 0 rfl ?_
                refine j_iload_n (pc' := 105) C dX8_live_104 rfl 0 rfl ?_
                refine j_iload (pc' := 107) C dX8_live_105 rfl 1 rfl ?_
                refine j_cSi (As := [.int (nI (y ||| 0)), .int (nI (t (21 + c)))]) (wr := [(a0, .inr (8, [.int th, .ref aX, .int ty, .int sp, .int tk, .int pl, .int va, .int fa, .ref aT, .ref aD, .ref aS, .ref aU, .int um, .ref aK, .ref aI, .ref aL, .ref aE, .ref aF, .int sm, .ref aP, .ref aW, .int sn, .ref aB, .ref aM])), (aT, .inl (cyI, 42, .inl (nA t))), (aS, .inl (cyI, 30, .inl (nA s)))]) (pc' := 110) C (c_X8_has (a := y ||| 0) (k := t (21 + c)) (ha := by first | omega | exact Nat.lt_of_lt_of_le (or_lt (k := 7) hz7 (p2_lt (by omega))) (by decide) | exact Nat.lt_of_lt_of_le (or_lt (k := 7) hz7 (by decide)) (by decide)) (hk9 := by first | assumption | omega)) Y_X8_has (ml_X8_130) [] [0, 1, 2] rfl rfl rfl rfl (by decide) dX8_live_107 rfl rfl rfl (Nat.le_of_ble_eq_true rfl) ⟨Nat.le_of_ble_eq_true rfl, Nat.le_of_ble_eq_true rfl⟩ ⟨Nat.le_of_ble_eq_true rfl, Nat.le_of_ble_eq_true rfl⟩ ⟨rfl, rfl⟩ (fun r4 w1 hQ => ?_)
                obtain ⟨rfl, rfl⟩ := hQ
                refine j_perm [(a0, .inr (8, [.int th, .ref aX, .int ty, .int sp, .int tk, .int pl, .int va, .int fa, .ref aT, .ref aD, .ref aS, .ref aU, .int um, .ref aK, .ref aI, .ref aL, .ref aE, .ref aF, .int sm, .ref aP, .ref aW, .int sn, .ref aB, .ref aM])), (aT, .inl (cyI, 42, .inl (nA t))), (aS, .inl (cyI, 30, .inl (nA s)))] [0, 1, 2] rfl rfl (by decide) ?_
                refine j_b_eq (pc' := 113) C 130 dX8_live_110 (by decide) rfl (fun c110 => ?_) (fun c110 => ?_)
                · refine j_iconst (v := (nI 0)) (pc' := 131) C dX8_live_130 rfl (by decide +kernel) ?_
                  refine j_ior (v := (nI ((y ||| 0) ||| 0))) (pc' := 132) C dX8_live_131 rfl (fa_or (y ||| 0) 0) ?_
                  refine j_istore_n (pc' := 133) C [(3, .int (nI ((y ||| 0) ||| 0))), (7, .int (nI (t (21 + c)))), (6, .int (nI (t (12 + c)))), (0, .ref a0), (1, .int (nI st)), (2, .int (nI wo)), (4, .int (nI k)), (5, .int (nI c))] dX8_live_132 rfl (by decide) rfl ?_
                  refine j_iinc (v := (nI (c + 1))) (pc' := 136) C [(5, .int (nI (c + 1))), (3, .int (nI ((y ||| 0) ||| 0))), (7, .int (nI (t (21 + c)))), (6, .int (nI (t (12 + c)))), (0, .ref a0), (1, .int (nI st)), (2, .int (nI wo)), (4, .int (nI k))] dX8_live_133 rfl 7 rfl (inc_n c 1) (by decide) rfl ?_
                  refine j_goto C 19 dX8_live_136 (by decide) ?_
                  refine j_lsub [(0, .ref a0), (1, .int (nI st)), (2, .int (nI wo)), (3, .int (nI ((y ||| 0) ||| 0))), (4, .int (nI k)), (5, .int (nI (c + 1)))] [4, 5, 6, 1, 7, 0] rfl ?_
                  exact ih19 (c + 1) ((y ||| 0) ||| 0) (⟨by omega, by rw [lvS, ← hz2]; unfold lvC lvB lvA; simp_all⟩) (by omega)
                · refine j_aload_n (pc' := 114) C dX8_live_113 rfl 3 rfl ?_
                  refine j_iload (pc' := 116) C dX8_live_114 rfl 7 rfl ?_
                  refine j_iconst (v := (nI 1)) (pc' := 117) C dX8_live_116 rfl (by decide +kernel) ?_
                  refine j_cVi (As := [.int (nI c), .int (nI 1)]) (wr := []) (pc' := 120) C (c_X8_isWay (a0 := a0) (th := th) (aX := aX) (ty := ty) (sp := sp) (tk := tk) (pl := pl) (va := va) (fa := fa) (aT := aT) (aD := aD) (aS := aS) (aU := aU) (um := um) (aK := aK) (aI := aI) (aL := aL) (aE := aE) (aF := aF) (sm := sm) (aP := aP) (aW := aW) (sn := sn) (aB := aB) (aM := aM) (t := t) (s := s) (c := c) (bk := true) (hT := by first | assumption | omega) (hS := by first | assumption | omega) (hc := by first | assumption | omega)) Y_X8_isWay (ml_X8_136) [0, 1, 2] [] rfl rfl rfl rfl (by decide) rfl rfl rfl dX8_live_117 rfl rfl rfl (Nat.le_of_ble_eq_true rfl) ⟨Nat.le_of_ble_eq_true rfl, Nat.le_of_ble_eq_true rfl⟩ ⟨Nat.le_of_ble_eq_true rfl, Nat.le_of_ble_eq_true rfl⟩ ⟨rfl, rfl⟩ (fun r5 w1 hQ => ?_)
                  obtain ⟨rfl, rfl⟩ := hQ
                  refine j_b_eq (pc' := 123) C 130 dX8_live_120 (by decide) rfl (fun c120 => ?_) (fun c120 => ?_)
                  · refine j_iconst (v := (nI 0)) (pc' := 131) C dX8_live_130 rfl (by decide +kernel) ?_
                    refine j_ior (v := (nI ((y ||| 0) ||| 0))) (pc' := 132) C dX8_live_131 rfl (fa_or (y ||| 0) 0) ?_
                    refine j_istore_n (pc' := 133) C [(3, .int (nI ((y ||| 0) ||| 0))), (7, .int (nI (t (21 + c)))), (6, .int (nI (t (12 + c)))), (0, .ref a0), (1, .int (nI st)), (2, .int (nI wo)), (4, .int (nI k)), (5, .int (nI c))] dX8_live_132 rfl (by decide) rfl ?_
                    refine j_iinc (v := (nI (c + 1))) (pc' := 136) C [(5, .int (nI (c + 1))), (3, .int (nI ((y ||| 0) ||| 0))), (7, .int (nI (t (21 + c)))), (6, .int (nI (t (12 + c)))), (0, .ref a0), (1, .int (nI st)), (2, .int (nI wo)), (4, .int (nI k))] dX8_live_133 rfl 7 rfl (inc_n c 1) (by decide) rfl ?_
                    refine j_goto C 19 dX8_live_136 (by decide) ?_
                    refine j_lsub [(0, .ref a0), (1, .int (nI st)), (2, .int (nI wo)), (3, .int (nI ((y ||| 0) ||| 0))), (4, .int (nI k)), (5, .int (nI (c + 1)))] [4, 5, 6, 1, 7, 0] rfl ?_
                    exact ih19 (c + 1) ((y ||| 0) ||| 0) (⟨by omega, by rw [lvS, ← hz2]; unfold lvC lvB lvA; simp_all⟩) (by omega)
                  · refine j_iconst (v := (nI 1)) (pc' := 124) C dX8_live_123 rfl (by decide +kernel) ?_
                    refine j_iload (pc' := 126) C dX8_live_124 rfl 2 rfl ?_
                    refine j_ishl (v := (nI (2 ^ (t (12 + c))))) (pc' := 127) C dX8_live_126 rfl (sh_1 (by omega)) ?_
                    refine j_goto C 131 dX8_live_127 (by decide) ?_
                    refine j_ior (v := (nI ((y ||| 0) ||| (2 ^ (t (12 + c)))))) (pc' := 132) C dX8_live_131 rfl (fa_or (y ||| 0) (2 ^ (t (12 + c)))) ?_
                    refine j_istore_n (pc' := 133) C [(3, .int (nI ((y ||| 0) ||| (2 ^ (t (12 + c)))))), (7, .int (nI (t (21 + c)))), (6, .int (nI (t (12 + c)))), (0, .ref a0), (1, .int (nI st)), (2, .int (nI wo)), (4, .int (nI k)), (5, .int (nI c))] dX8_live_132 rfl (by decide) rfl ?_
                    refine j_iinc (v := (nI (c + 1))) (pc' := 136) C [(5, .int (nI (c + 1))), (3, .int (nI ((y ||| 0) ||| (2 ^ (t (12 + c)))))), (7, .int (nI (t (21 + c)))), (6, .int (nI (t (12 + c)))), (0, .ref a0), (1, .int (nI st)), (2, .int (nI wo)), (4, .int (nI k))] dX8_live_133 rfl 7 rfl (inc_n c 1) (by decide) rfl ?_
                    refine j_goto C 19 dX8_live_136 (by decide) ?_
                    refine j_lsub [(0, .ref a0), (1, .int (nI st)), (2, .int (nI wo)), (3, .int (nI ((y ||| 0) ||| (2 ^ (t (12 + c)))))), (4, .int (nI k)), (5, .int (nI (c + 1)))] [4, 5, 6, 1, 7, 0] rfl ?_
                    exact ih19 (c + 1) ((y ||| 0) ||| (2 ^ (t (12 + c)))) (⟨by omega, by rw [lvS, ← hz2]; unfold lvC lvB lvA; simp_all⟩) (by omega)
              · refine j_aload_n (pc' := 84) C dX8_live_83 rfl 2 rfl ?_
                refine j_iload (pc' := 86) C dX8_live_84 rfl 7 rfl ?_
                refine j_iconst (v := (nI 0)) (pc' := 87) C dX8_live_86 rfl (by decide +kernel) ?_
                refine j_cVi (As := [.int (nI c), .int (nI 0)]) (wr := []) (pc' := 90) C (c_X8_isWay (a0 := a0) (th := th) (aX := aX) (ty := ty) (sp := sp) (tk := tk) (pl := pl) (va := va) (fa := fa) (aT := aT) (aD := aD) (aS := aS) (aU := aU) (um := um) (aK := aK) (aI := aI) (aL := aL) (aE := aE) (aF := aF) (sm := sm) (aP := aP) (aW := aW) (sn := sn) (aB := aB) (aM := aM) (t := t) (s := s) (c := c) (bk := false) (hT := by first | assumption | omega) (hS := by first | assumption | omega) (hc := by first | assumption | omega)) Y_X8_isWay (ml_X8_136) [0, 1, 2] [] rfl rfl rfl rfl (by decide) rfl rfl rfl dX8_live_87 rfl rfl rfl (Nat.le_of_ble_eq_true rfl) ⟨Nat.le_of_ble_eq_true rfl, Nat.le_of_ble_eq_true rfl⟩ ⟨Nat.le_of_ble_eq_true rfl, Nat.le_of_ble_eq_true rfl⟩ ⟨rfl, rfl⟩ (fun r6 w1 hQ => ?_)
                obtain ⟨rfl, rfl⟩ := hQ
                refine j_b_eq (pc' := 93) C 100 dX8_live_90 (by decide) rfl (fun c90 => ?_) (fun c90 => ?_)
                · refine j_iconst (v := (nI 0)) (pc' := 101) C dX8_live_100 rfl (by decide +kernel) ?_
                  refine j_ior (v := (nI (y ||| 0))) (pc' := 102) C dX8_live_101 rfl (fa_or y 0) ?_
                  refine j_istore_n (pc' := 103) C [(3, .int (nI (y ||| 0))), (7, .int (nI (t (21 + c)))), (6, .int (nI (t (12 + c)))), (0, .ref a0), (1, .int (nI st)), (2, .int (nI wo)), (4, .int (nI k)), (5, .int (nI c))] dX8_live_102 rfl (by decide) rfl ?_
                  refine j_iload_n (pc' := 104) C dX8_live_103 rfl 0 rfl ?_
                  refine j_iload_n (pc' := 105) C dX8_live_104 rfl 0 rfl ?_
                  refine j_iload (pc' := 107) C dX8_live_105 rfl 1 rfl ?_
                  refine j_cSi (As := [.int (nI (y ||| 0)), .int (nI (t (21 + c)))]) (wr := [(a0, .inr (8, [.int th, .ref aX, .int ty, .int sp, .int tk, .int pl, .int va, .int fa, .ref aT, .ref aD, .ref aS, .ref aU, .int um, .ref aK, .ref aI, .ref aL, .ref aE, .ref aF, .int sm, .ref aP, .ref aW, .int sn, .ref aB, .ref aM])), (aT, .inl (cyI, 42, .inl (nA t))), (aS, .inl (cyI, 30, .inl (nA s)))]) (pc' := 110) C (c_X8_has (a := y ||| 0) (k := t (21 + c)) (ha := by first | omega | exact Nat.lt_of_lt_of_le (or_lt (k := 7) hz7 (p2_lt (by omega))) (by decide) | exact Nat.lt_of_lt_of_le (or_lt (k := 7) hz7 (by decide)) (by decide)) (hk9 := by first | assumption | omega)) Y_X8_has (ml_X8_130) [] [0, 1, 2] rfl rfl rfl rfl (by decide) dX8_live_107 rfl rfl rfl (Nat.le_of_ble_eq_true rfl) ⟨Nat.le_of_ble_eq_true rfl, Nat.le_of_ble_eq_true rfl⟩ ⟨Nat.le_of_ble_eq_true rfl, Nat.le_of_ble_eq_true rfl⟩ ⟨rfl, rfl⟩ (fun r7 w1 hQ => ?_)
                  obtain ⟨rfl, rfl⟩ := hQ
                  refine j_perm [(a0, .inr (8, [.int th, .ref aX, .int ty, .int sp, .int tk, .int pl, .int va, .int fa, .ref aT, .ref aD, .ref aS, .ref aU, .int um, .ref aK, .ref aI, .ref aL, .ref aE, .ref aF, .int sm, .ref aP, .ref aW, .int sn, .ref aB, .ref aM])), (aT, .inl (cyI, 42, .inl (nA t))), (aS, .inl (cyI, 30, .inl (nA s)))] [0, 1, 2] rfl rfl (by decide) ?_
                  refine j_b_eq (pc' := 113) C 130 dX8_live_110 (by decide) rfl (fun c110 => ?_) (fun c110 => ?_)
                  · refine j_iconst (v := (nI 0)) (pc' := 131) C dX8_live_130 rfl (by decide +kernel) ?_
                    refine j_ior (v := (nI ((y ||| 0) ||| 0))) (pc' := 132) C dX8_live_131 rfl (fa_or (y ||| 0) 0) ?_
                    refine j_istore_n (pc' := 133) C [(3, .int (nI ((y ||| 0) ||| 0))), (7, .int (nI (t (21 + c)))), (6, .int (nI (t (12 + c)))), (0, .ref a0), (1, .int (nI st)), (2, .int (nI wo)), (4, .int (nI k)), (5, .int (nI c))] dX8_live_132 rfl (by decide) rfl ?_
                    refine j_iinc (v := (nI (c + 1))) (pc' := 136) C [(5, .int (nI (c + 1))), (3, .int (nI ((y ||| 0) ||| 0))), (7, .int (nI (t (21 + c)))), (6, .int (nI (t (12 + c)))), (0, .ref a0), (1, .int (nI st)), (2, .int (nI wo)), (4, .int (nI k))] dX8_live_133 rfl 7 rfl (inc_n c 1) (by decide) rfl ?_
                    refine j_goto C 19 dX8_live_136 (by decide) ?_
                    refine j_lsub [(0, .ref a0), (1, .int (nI st)), (2, .int (nI wo)), (3, .int (nI ((y ||| 0) ||| 0))), (4, .int (nI k)), (5, .int (nI (c + 1)))] [4, 5, 6, 1, 7, 0] rfl ?_
                    exact ih19 (c + 1) ((y ||| 0) ||| 0) (⟨by omega, by rw [lvS, ← hz2]; unfold lvC lvB lvA; simp_all⟩) (by omega)
                  · refine j_aload_n (pc' := 114) C dX8_live_113 rfl 3 rfl ?_
                    refine j_iload (pc' := 116) C dX8_live_114 rfl 7 rfl ?_
                    refine j_iconst (v := (nI 1)) (pc' := 117) C dX8_live_116 rfl (by decide +kernel) ?_
                    refine j_cVi (As := [.int (nI c), .int (nI 1)]) (wr := []) (pc' := 120) C (c_X8_isWay (a0 := a0) (th := th) (aX := aX) (ty := ty) (sp := sp) (tk := tk) (pl := pl) (va := va) (fa := fa) (aT := aT) (aD := aD) (aS := aS) (aU := aU) (um := um) (aK := aK) (aI := aI) (aL := aL) (aE := aE) (aF := aF) (sm := sm) (aP := aP) (aW := aW) (sn := sn) (aB := aB) (aM := aM) (t := t) (s := s) (c := c) (bk := true) (hT := by first | assumption | omega) (hS := by first | assumption | omega) (hc := by first | assumption | omega)) Y_X8_isWay (ml_X8_136) [0, 1, 2] [] rfl rfl rfl rfl (by decide) rfl rfl rfl dX8_live_117 rfl rfl rfl (Nat.le_of_ble_eq_true rfl) ⟨Nat.le_of_ble_eq_true rfl, Nat.le_of_ble_eq_true rfl⟩ ⟨Nat.le_of_ble_eq_true rfl, Nat.le_of_ble_eq_true rfl⟩ ⟨rfl, rfl⟩ (fun r8 w1 hQ => ?_)
                    obtain ⟨rfl, rfl⟩ := hQ
                    refine j_b_eq (pc' := 123) C 130 dX8_live_120 (by decide) rfl (fun c120 => ?_) (fun c120 => ?_)
                    · refine j_iconst (v := (nI 0)) (pc' := 131) C dX8_live_130 rfl (by decide +kernel) ?_
                      refine j_ior (v := (nI ((y ||| 0) ||| 0))) (pc' := 132) C dX8_live_131 rfl (fa_or (y ||| 0) 0) ?_
                      refine j_istore_n (pc' := 133) C [(3, .int (nI ((y ||| 0) ||| 0))), (7, .int (nI (t (21 + c)))), (6, .int (nI (t (12 + c)))), (0, .ref a0), (1, .int (nI st)), (2, .int (nI wo)), (4, .int (nI k)), (5, .int (nI c))] dX8_live_132 rfl (by decide) rfl ?_
                      refine j_iinc (v := (nI (c + 1))) (pc' := 136) C [(5, .int (nI (c + 1))), (3, .int (nI ((y ||| 0) ||| 0))), (7, .int (nI (t (21 + c)))), (6, .int (nI (t (12 + c)))), (0, .ref a0), (1, .int (nI st)), (2, .int (nI wo)), (4, .int (nI k))] dX8_live_133 rfl 7 rfl (inc_n c 1) (by decide) rfl ?_
                      refine j_goto C 19 dX8_live_136 (by decide) ?_
                      refine j_lsub [(0, .ref a0), (1, .int (nI st)), (2, .int (nI wo)), (3, .int (nI ((y ||| 0) ||| 0))), (4, .int (nI k)), (5, .int (nI (c + 1)))] [4, 5, 6, 1, 7, 0] rfl ?_
                      exact ih19 (c + 1) ((y ||| 0) ||| 0) (⟨by omega, by rw [lvS, ← hz2]; unfold lvC lvB lvA; simp_all⟩) (by omega)
                    · refine j_iconst (v := (nI 1)) (pc' := 124) C dX8_live_123 rfl (by decide +kernel) ?_
                      refine j_iload (pc' := 126) C dX8_live_124 rfl 2 rfl ?_
                      refine j_ishl (v := (nI (2 ^ (t (12 + c))))) (pc' := 127) C dX8_live_126 rfl (sh_1 (by omega)) ?_
                      refine j_goto C 131 dX8_live_127 (by decide) ?_
                      refine j_ior (v := (nI ((y ||| 0) ||| (2 ^ (t (12 + c)))))) (pc' := 132) C dX8_live_131 rfl (fa_or (y ||| 0) (2 ^ (t (12 + c)))) ?_
                      refine j_istore_n (pc' := 133) C [(3, .int (nI ((y ||| 0) ||| (2 ^ (t (12 + c)))))), (7, .int (nI (t (21 + c)))), (6, .int (nI (t (12 + c)))), (0, .ref a0), (1, .int (nI st)), (2, .int (nI wo)), (4, .int (nI k)), (5, .int (nI c))] dX8_live_132 rfl (by decide) rfl ?_
                      refine j_iinc (v := (nI (c + 1))) (pc' := 136) C [(5, .int (nI (c + 1))), (3, .int (nI ((y ||| 0) ||| (2 ^ (t (12 + c)))))), (7, .int (nI (t (21 + c)))), (6, .int (nI (t (12 + c)))), (0, .ref a0), (1, .int (nI st)), (2, .int (nI wo)), (4, .int (nI k))] dX8_live_133 rfl 7 rfl (inc_n c 1) (by decide) rfl ?_
                      refine j_goto C 19 dX8_live_136 (by decide) ?_
                      refine j_lsub [(0, .ref a0), (1, .int (nI st)), (2, .int (nI wo)), (3, .int (nI ((y ||| 0) ||| (2 ^ (t (12 + c)))))), (4, .int (nI k)), (5, .int (nI (c + 1)))] [4, 5, 6, 1, 7, 0] rfl ?_
                      exact ih19 (c + 1) ((y ||| 0) ||| (2 ^ (t (12 + c)))) (⟨by omega, by rw [lvS, ← hz2]; unfold lvC lvB lvA; simp_all⟩) (by omega)
                · refine j_iconst (v := (nI 1)) (pc' := 94) C dX8_live_93 rfl (by decide +kernel) ?_
                  refine j_iload (pc' := 96) C dX8_live_94 rfl 0 rfl ?_
                  refine j_ishl (v := (nI (2 ^ (t (21 + c))))) (pc' := 97) C dX8_live_96 rfl (sh_1 (by omega)) ?_
                  refine j_goto C 101 dX8_live_97 (by decide) ?_
                  refine j_ior (v := (nI (y ||| (2 ^ (t (21 + c)))))) (pc' := 102) C dX8_live_101 rfl (fa_or y (2 ^ (t (21 + c)))) ?_
                  refine j_istore_n (pc' := 103) C [(3, .int (nI (y ||| (2 ^ (t (21 + c)))))), (7, .int (nI (t (21 + c)))), (6, .int (nI (t (12 + c)))), (0, .ref a0), (1, .int (nI st)), (2, .int (nI wo)), (4, .int (nI k)), (5, .int (nI c))] dX8_live_102 rfl (by decide) rfl ?_
                  refine j_iload_n (pc' := 104) C dX8_live_103 rfl 0 rfl ?_
                  refine j_iload_n (pc' := 105) C dX8_live_104 rfl 0 rfl ?_
                  refine j_iload (pc' := 107) C dX8_live_105 rfl 1 rfl ?_
                  refine j_cSi (As := [.int (nI (y ||| (2 ^ (t (21 + c))))), .int (nI (t (21 + c)))]) (wr := [(a0, .inr (8, [.int th, .ref aX, .int ty, .int sp, .int tk, .int pl, .int va, .int fa, .ref aT, .ref aD, .ref aS, .ref aU, .int um, .ref aK, .ref aI, .ref aL, .ref aE, .ref aF, .int sm, .ref aP, .ref aW, .int sn, .ref aB, .ref aM])), (aT, .inl (cyI, 42, .inl (nA t))), (aS, .inl (cyI, 30, .inl (nA s)))]) (pc' := 110) C (c_X8_has (a := y ||| (2 ^ (t (21 + c)))) (k := t (21 + c)) (ha := by first | omega | exact Nat.lt_of_lt_of_le (or_lt (k := 7) hz7 (p2_lt (by omega))) (by decide) | exact Nat.lt_of_lt_of_le (or_lt (k := 7) hz7 (by decide)) (by decide)) (hk9 := by first | assumption | omega)) Y_X8_has (ml_X8_130) [] [0, 1, 2] rfl rfl rfl rfl (by decide) dX8_live_107 rfl rfl rfl (Nat.le_of_ble_eq_true rfl) ⟨Nat.le_of_ble_eq_true rfl, Nat.le_of_ble_eq_true rfl⟩ ⟨Nat.le_of_ble_eq_true rfl, Nat.le_of_ble_eq_true rfl⟩ ⟨rfl, rfl⟩ (fun r9 w1 hQ => ?_)
                  obtain ⟨rfl, rfl⟩ := hQ
                  refine j_perm [(a0, .inr (8, [.int th, .ref aX, .int ty, .int sp, .int tk, .int pl, .int va, .int fa, .ref aT, .ref aD, .ref aS, .ref aU, .int um, .ref aK, .ref aI, .ref aL, .ref aE, .ref aF, .int sm, .ref aP, .ref aW, .int sn, .ref aB, .ref aM])), (aT, .inl (cyI, 42, .inl (nA t))), (aS, .inl (cyI, 30, .inl (nA s)))] [0, 1, 2] rfl rfl (by decide) ?_
                  refine j_b_eq (pc' := 113) C 130 dX8_live_110 (by decide) rfl (fun c110 => ?_) (fun c110 => ?_)
                  · refine j_iconst (v := (nI 0)) (pc' := 131) C dX8_live_130 rfl (by decide +kernel) ?_
                    refine j_ior (v := (nI ((y ||| (2 ^ (t (21 + c)))) ||| 0))) (pc' := 132) C dX8_live_131 rfl (fa_or (y ||| (2 ^ (t (21 + c)))) 0) ?_
                    refine j_istore_n (pc' := 133) C [(3, .int (nI ((y ||| (2 ^ (t (21 + c)))) ||| 0))), (7, .int (nI (t (21 + c)))), (6, .int (nI (t (12 + c)))), (0, .ref a0), (1, .int (nI st)), (2, .int (nI wo)), (4, .int (nI k)), (5, .int (nI c))] dX8_live_132 rfl (by decide) rfl ?_
                    refine j_iinc (v := (nI (c + 1))) (pc' := 136) C [(5, .int (nI (c + 1))), (3, .int (nI ((y ||| (2 ^ (t (21 + c)))) ||| 0))), (7, .int (nI (t (21 + c)))), (6, .int (nI (t (12 + c)))), (0, .ref a0), (1, .int (nI st)), (2, .int (nI wo)), (4, .int (nI k))] dX8_live_133 rfl 7 rfl (inc_n c 1) (by decide) rfl ?_
                    refine j_goto C 19 dX8_live_136 (by decide) ?_
                    refine j_lsub [(0, .ref a0), (1, .int (nI st)), (2, .int (nI wo)), (3, .int (nI ((y ||| (2 ^ (t (21 + c)))) ||| 0))), (4, .int (nI k)), (5, .int (nI (c + 1)))] [4, 5, 6, 1, 7, 0] rfl ?_
                    exact ih19 (c + 1) ((y ||| (2 ^ (t (21 + c)))) ||| 0) (⟨by omega, by rw [lvS, ← hz2]; unfold lvC lvB lvA; simp_all⟩) (by omega)
                  · refine j_aload_n (pc' := 114) C dX8_live_113 rfl 3 rfl ?_
                    refine j_iload (pc' := 116) C dX8_live_114 rfl 7 rfl ?_
                    refine j_iconst (v := (nI 1)) (pc' := 117) C dX8_live_116 rfl (by decide +kernel) ?_
                    refine j_cVi (As := [.int (nI c), .int (nI 1)]) (wr := []) (pc' := 120) C (c_X8_isWay (a0 := a0) (th := th) (aX := aX) (ty := ty) (sp := sp) (tk := tk) (pl := pl) (va := va) (fa := fa) (aT := aT) (aD := aD) (aS := aS) (aU := aU) (um := um) (aK := aK) (aI := aI) (aL := aL) (aE := aE) (aF := aF) (sm := sm) (aP := aP) (aW := aW) (sn := sn) (aB := aB) (aM := aM) (t := t) (s := s) (c := c) (bk := true) (hT := by first | assumption | omega) (hS := by first | assumption | omega) (hc := by first | assumption | omega)) Y_X8_isWay (ml_X8_136) [0, 1, 2] [] rfl rfl rfl rfl (by decide) rfl rfl rfl dX8_live_117 rfl rfl rfl (Nat.le_of_ble_eq_true rfl) ⟨Nat.le_of_ble_eq_true rfl, Nat.le_of_ble_eq_true rfl⟩ ⟨Nat.le_of_ble_eq_true rfl, Nat.le_of_ble_eq_true rfl⟩ ⟨rfl, rfl⟩ (fun r10 w1 hQ => ?_)
                    obtain ⟨rfl, rfl⟩ := hQ
                    refine j_b_eq (pc' := 123) C 130 dX8_live_120 (by decide) rfl (fun c120 => ?_) (fun c120 => ?_)
                    · refine j_iconst (v := (nI 0)) (pc' := 131) C dX8_live_130 rfl (by decide +kernel) ?_
                      refine j_ior (v := (nI ((y ||| (2 ^ (t (21 + c)))) ||| 0))) (pc' := 132) C dX8_live_131 rfl (fa_or (y ||| (2 ^ (t (21 + c)))) 0) ?_
                      refine j_istore_n (pc' := 133) C [(3, .int (nI ((y ||| (2 ^ (t (21 + c)))) ||| 0))), (7, .int (nI (t (21 + c)))), (6, .int (nI (t (12 + c)))), (0, .ref a0), (1, .int (nI st)), (2, .int (nI wo)), (4, .int (nI k)), (5, .int (nI c))] dX8_live_132 rfl (by decide) rfl ?_
                      refine j_iinc (v := (nI (c + 1))) (pc' := 136) C [(5, .int (nI (c + 1))), (3, .int (nI ((y ||| (2 ^ (t (21 + c)))) ||| 0))), (7, .int (nI (t (21 + c)))), (6, .int (nI (t (12 + c)))), (0, .ref a0), (1, .int (nI st)), (2, .int (nI wo)), (4, .int (nI k))] dX8_live_133 rfl 7 rfl (inc_n c 1) (by decide) rfl ?_
                      refine j_goto C 19 dX8_live_136 (by decide) ?_
                      refine j_lsub [(0, .ref a0), (1, .int (nI st)), (2, .int (nI wo)), (3, .int (nI ((y ||| (2 ^ (t (21 + c)))) ||| 0))), (4, .int (nI k)), (5, .int (nI (c + 1)))] [4, 5, 6, 1, 7, 0] rfl ?_
                      exact ih19 (c + 1) ((y ||| (2 ^ (t (21 + c)))) ||| 0) (⟨by omega, by rw [lvS, ← hz2]; unfold lvC lvB lvA; simp_all⟩) (by omega)
                    · refine j_iconst (v := (nI 1)) (pc' := 124) C dX8_live_123 rfl (by decide +kernel) ?_
                      refine j_iload (pc' := 126) C dX8_live_124 rfl 2 rfl ?_
                      refine j_ishl (v := (nI (2 ^ (t (12 + c))))) (pc' := 127) C dX8_live_126 rfl (sh_1 (by omega)) ?_
                      refine j_goto C 131 dX8_live_127 (by decide) ?_
                      refine j_ior (v := (nI ((y ||| (2 ^ (t (21 + c)))) ||| (2 ^ (t (12 + c)))))) (pc' := 132) C dX8_live_131 rfl (fa_or (y ||| (2 ^ (t (21 + c)))) (2 ^ (t (12 + c)))) ?_
                      refine j_istore_n (pc' := 133) C [(3, .int (nI ((y ||| (2 ^ (t (21 + c)))) ||| (2 ^ (t (12 + c)))))), (7, .int (nI (t (21 + c)))), (6, .int (nI (t (12 + c)))), (0, .ref a0), (1, .int (nI st)), (2, .int (nI wo)), (4, .int (nI k)), (5, .int (nI c))] dX8_live_132 rfl (by decide) rfl ?_
                      refine j_iinc (v := (nI (c + 1))) (pc' := 136) C [(5, .int (nI (c + 1))), (3, .int (nI ((y ||| (2 ^ (t (21 + c)))) ||| (2 ^ (t (12 + c)))))), (7, .int (nI (t (21 + c)))), (6, .int (nI (t (12 + c)))), (0, .ref a0), (1, .int (nI st)), (2, .int (nI wo)), (4, .int (nI k))] dX8_live_133 rfl 7 rfl (inc_n c 1) (by decide) rfl ?_
                      refine j_goto C 19 dX8_live_136 (by decide) ?_
                      refine j_lsub [(0, .ref a0), (1, .int (nI st)), (2, .int (nI wo)), (3, .int (nI ((y ||| (2 ^ (t (21 + c)))) ||| (2 ^ (t (12 + c)))))), (4, .int (nI k)), (5, .int (nI (c + 1)))] [4, 5, 6, 1, 7, 0] rfl ?_
                      exact ih19 (c + 1) ((y ||| (2 ^ (t (21 + c)))) ||| (2 ^ (t (12 + c)))) (⟨by omega, by rw [lvS, ← hz2]; unfold lvC lvB lvA; simp_all⟩) (by omega)
      · exact ⟨Nat.zero_le _, by rw [hz]; rfl⟩
  · exact ⟨Nat.zero_le _, rfl⟩

set_option maxHeartbeats 4000000 in
set_option maxRecDepth 100000 in
theorem c_X8_isFed {lch : Launch} {dG : va_G} {cyI cyZ cyO : ClassId} (a0 : Nat) (th : Int32) (aX : Nat) (ty : Int32) (sp : Int32) (tk : Int32) (pl : Int32) (va : Int32) (fa : Int32) (aT : Nat) (aD : Nat) (aS : Nat) (aU : Nat) (um : Int32) (aK : Nat) (aI : Nat) (aL : Nat) (aE : Nat) (aF : Nat) (sm : Int32) (aP : Nat) (aW : Nat) (sn : Int32) (aB : Nat) (aM : Nat) (t : Nat → Nat) (s : Nat → Nat) (l : Nat) (st : Nat) (wo : Nat) (hT : WT t) (hS : WS s) (hl : l < t 2) (hst : st < 16) (hwo : wo < 512) : Ki lch yX8_isFed cX8_isFed 4 .boolean (rmk 4) dG (cyI, cyZ, cyO) [.ref a0, .int (nI l), .int (nI st), .int (nI wo)] [(a0, .inr (8, [.int th, .ref aX, .int ty, .int sp, .int tk, .int pl, .int va, .int fa, .ref aT, .ref aD, .ref aS, .ref aU, .int um, .ref aK, .ref aI, .ref aL, .ref aE, .ref aF, .int sm, .ref aP, .ref aW, .int sn, .ref aB, .ref aM])), (aT, .inl (cyI, 42, .inl (nA t))), (aS, .inl (cyI, 30, .inl (nA s)))] (fun r w1 => w1 = [(a0, .inr (8, [.int th, .ref aX, .int ty, .int sp, .int tk, .int pl, .int va, .int fa, .ref aT, .ref aD, .ref aS, .ref aU, .int um, .ref aK, .ref aI, .ref aL, .ref aE, .ref aF, .int sm, .ref aP, .ref aW, .int sn, .ref aB, .ref aM])), (aT, .inl (cyI, 42, .inl (nA t))), (aS, .inl (cyI, 30, .inl (nA s)))] ∧ r = (bI (fedB t s l st wo))) := by
  have h1 := hT.n
  have h2 := hT.l hl
  refine Ki.of (own := RX8) rfl (by decide) (Nat.le_of_ble_eq_true rfl) (fun p0 e0 s0 m0 ar0 be0 me0 cd0 A0 C hr hk hnm hA => ?_)
  refine j_lsub [(0, .ref a0), (1, .int (nI l)), (2, .int (nI st)), (3, .int (nI wo))] [0, 1, 2, 3] rfl ?_
  refine j_aload_n (pc' := 1) C dX8_isFed_0 rfl 0 rfl ?_
  refine j_iload_n (pc' := 2) C dX8_isFed_1 rfl 2 rfl ?_
  refine j_iload_n (pc' := 3) C dX8_isFed_2 rfl 3 rfl ?_
  refine j_cVi (As := [.int (nI st), .int (nI wo)]) (wr := []) (pc' := 6) C (c_X8_live (a0 := a0) (th := th) (aX := aX) (ty := ty) (sp := sp) (tk := tk) (pl := pl) (va := va) (fa := fa) (aT := aT) (aD := aD) (aS := aS) (aU := aU) (um := um) (aK := aK) (aI := aI) (aL := aL) (aE := aE) (aF := aF) (sm := sm) (aP := aP) (aW := aW) (sn := sn) (aB := aB) (aM := aM) (t := t) (s := s) (st := st) (wo := wo) (hT := by first | assumption | omega) (hS := by first | assumption | omega) (hst := by first | assumption | omega) (hwo := by first | assumption | omega)) Y_X8_live (ml_X8_140) [0, 1, 2] [] rfl rfl rfl rfl (by decide) rfl rfl rfl dX8_isFed_3 rfl rfl rfl (Nat.le_of_ble_eq_true rfl) ⟨Nat.le_of_ble_eq_true rfl, Nat.le_of_ble_eq_true rfl⟩ ⟨Nat.le_of_ble_eq_true rfl, Nat.le_of_ble_eq_true rfl⟩ ⟨rfl, rfl⟩ (fun r1 w1 hQ => ?_)
  obtain ⟨rfl, rfl⟩ := hQ
  refine j_aload_n (pc' := 7) C dX8_isFed_6 rfl 0 rfl ?_
  refine j_get (v := .ref aT) (pc' := 10) C KX8 0 8 rfl (by decide) fl_X8_13 rfl rfl dX8_isFed_7 rfl ?_
  refine j_bipush (v := (nI 39)) (pc' := 12) C dX8_isFed_10 rfl (by decide +kernel) ?_
  refine j_iload_n (pc' := 13) C dX8_isFed_12 rfl 1 rfl ?_
  refine j_iadd (v := (nI (39 + l))) (pc' := 14) C dX8_isFed_13 rfl (nI_add 39 l) ?_
  refine j_nald (pc' := 15) C 1 rfl (by omega) (by decide) dX8_isFed_14 rfl ?_
  refine j_cSi (As := [.int (nI (lvR t s st wo (t 0))), .int (nI (t (39 + l)))]) (wr := [(a0, .inr (8, [.int th, .ref aX, .int ty, .int sp, .int tk, .int pl, .int va, .int fa, .ref aT, .ref aD, .ref aS, .ref aU, .int um, .ref aK, .ref aI, .ref aL, .ref aE, .ref aF, .int sm, .ref aP, .ref aW, .int sn, .ref aB, .ref aM])), (aT, .inl (cyI, 42, .inl (nA t))), (aS, .inl (cyI, 30, .inl (nA s)))]) (pc' := 18) C (c_X8_has (a := lvR t s st wo (t 0)) (k := t (39 + l)) (ha := Nat.lt_of_lt_of_le (lvR_lt hT _) (by decide)) (hk9 := by first | assumption | omega)) Y_X8_has (ml_X8_130) [] [0, 1, 2] rfl rfl rfl rfl (by decide) dX8_isFed_15 rfl rfl rfl (Nat.le_of_ble_eq_true rfl) ⟨Nat.le_of_ble_eq_true rfl, Nat.le_of_ble_eq_true rfl⟩ ⟨Nat.le_of_ble_eq_true rfl, Nat.le_of_ble_eq_true rfl⟩ ⟨rfl, rfl⟩ (fun r2 w1 hQ => ?_)
  obtain ⟨rfl, rfl⟩ := hQ
  refine j_perm [(a0, .inr (8, [.int th, .ref aX, .int ty, .int sp, .int tk, .int pl, .int va, .int fa, .ref aT, .ref aD, .ref aS, .ref aU, .int um, .ref aK, .ref aI, .ref aL, .ref aE, .ref aF, .int sm, .ref aP, .ref aW, .int sn, .ref aB, .ref aM])), (aT, .inl (cyI, 42, .inl (nA t))), (aS, .inl (cyI, 30, .inl (nA s)))] [0, 1, 2] rfl rfl (by decide) ?_
  exact j_iret C hr hk hA dX8_isFed_18 (nrw_bI _) (⟨rfl, rfl⟩)

set_option maxHeartbeats 4000000 in
set_option maxRecDepth 100000 in
theorem c_X8_fedIn {lch : Launch} {dG : va_G} {cyI cyZ cyO : ClassId} (a0 : Nat) (th : Int32) (aX : Nat) (ty : Int32) (sp : Int32) (tk : Int32) (pl : Int32) (va : Int32) (fa : Int32) (aT : Nat) (aD : Nat) (aS : Nat) (aU : Nat) (um : Int32) (aK : Nat) (aI : Nat) (aL : Nat) (aE : Nat) (aF : Nat) (sm : Int32) (aP : Nat) (aW : Nat) (sn : Int32) (aB : Nat) (aM : Nat) (t : Nat → Nat) (s : Nat → Nat) (l : Nat) (hT : WT t) (hS : WS s) (hl : l < t 2) : Ki lch yX8_fedIn cX8_fedIn 4 .int (rmk 5) dG (cyI, cyZ, cyO) [.ref a0, .int (nI l)] [(a0, .inr (8, [.int th, .ref aX, .int ty, .int sp, .int tk, .int pl, .int va, .int fa, .ref aT, .ref aD, .ref aS, .ref aU, .int um, .ref aK, .ref aI, .ref aL, .ref aE, .ref aF, .int sm, .ref aP, .ref aW, .int sn, .ref aB, .ref aM])), (aT, .inl (cyI, 42, .inl (nA t))), (aS, .inl (cyI, 30, .inl (nA s)))] (fun r w1 => w1 = [(a0, .inr (8, [.int th, .ref aX, .int ty, .int sp, .int tk, .int pl, .int va, .int fa, .ref aT, .ref aD, .ref aS, .ref aU, .int um, .ref aK, .ref aI, .ref aL, .ref aE, .ref aF, .int sm, .ref aP, .ref aW, .int sn, .ref aB, .ref aM])), (aT, .inl (cyI, 42, .inl (nA t))), (aS, .inl (cyI, 30, .inl (nA s)))] ∧ r = (nI (fedN t s l))) := by
  refine Ki.of (own := RX8) rfl (by decide) (Nat.le_of_ble_eq_true rfl) (fun p0 e0 s0 m0 ar0 be0 me0 cd0 A0 C hr hk hnm hA => ?_)
  refine j_lsub [(0, .ref a0), (1, .int (nI l))] [0, 1] rfl ?_
  refine j_iconst (v := (nI 0)) (pc' := 1) C dX8_fedIn_0 rfl (by decide +kernel) ?_
  refine j_istore_n (pc' := 2) C [(2, .int (nI 0)), (0, .ref a0), (1, .int (nI l))] dX8_fedIn_1 rfl (by decide) rfl ?_
  refine j_iconst (v := (nI 0)) (pc' := 3) C dX8_fedIn_2 rfl (by decide +kernel) ?_
  refine j_istore_n (pc' := 4) C [(3, .int (nI 0)), (2, .int (nI 0)), (0, .ref a0), (1, .int (nI l))] dX8_fedIn_3 rfl (by decide) rfl ?_
  refine j_lsub [(0, .ref a0), (1, .int (nI l)), (2, .int (nI 0)), (3, .int (nI 0))] [2, 3, 1, 0] rfl ?_
  refine j_loop2 (fun (k : Nat) (z : Nat) => [(a0, .inr (8, [.int th, .ref aX, .int ty, .int sp, .int tk, .int pl, .int va, .int fa, .ref aT, .ref aD, .ref aS, .ref aU, .int um, .ref aK, .ref aI, .ref aL, .ref aE, .ref aF, .int sm, .ref aP, .ref aW, .int sn, .ref aB, .ref aM])), (aT, .inl (cyI, 42, .inl (nA t))), (aS, .inl (cyI, 30, .inl (nA s)))]) (fun (k : Nat) (z : Nat) => [(0, .ref a0), (1, .int (nI l)), (2, .int (nI z)), (3, .int (nI k))]) (fun (k : Nat) (z : Nat) => []) (fun (k : Nat) (z : Nat) => k ≤ 16 ∧ z = bsN (fun st => fedB t s l st 0) k) (fun (k : Nat) (z : Nat) => 16 - k) ?_ 0 0 ?_
  · intro k z hI4 ih4
    obtain ⟨hk0, hz⟩ := hI4
    refine j_iload_n (pc' := 5) C dX8_fedIn_4 rfl 3 rfl ?_
    refine j_bipush (v := (nI 16)) (pc' := 7) C dX8_fedIn_5 rfl (by decide +kernel) ?_
    refine j_nc_ge (pc' := 10) C 36 dX8_fedIn_7 (by decide) rfl (by omega) (by omega) (fun c7 => ?_) (fun c7 => ?_)
    · refine j_iload_n (pc' := 37) C dX8_fedIn_36 rfl 2 rfl ?_
      exact j_iret C hr hk hA dX8_fedIn_37 (rfl) (⟨rfl, by rw [hz, show k = 16 by omega]; rfl⟩)
    · refine j_iload_n (pc' := 11) C dX8_fedIn_10 rfl 2 rfl ?_
      refine j_aload_n (pc' := 12) C dX8_fedIn_11 rfl 0 rfl ?_
      refine j_iload_n (pc' := 13) C dX8_fedIn_12 rfl 1 rfl ?_
      refine j_iload_n (pc' := 14) C dX8_fedIn_13 rfl 3 rfl ?_
      refine j_iconst (v := (nI 0)) (pc' := 15) C dX8_fedIn_14 rfl (by decide +kernel) ?_
      refine j_cVi (As := [.int (nI l), .int (nI k), .int (nI 0)]) (wr := []) (pc' := 18) C (c_X8_isFed (a0 := a0) (th := th) (aX := aX) (ty := ty) (sp := sp) (tk := tk) (pl := pl) (va := va) (fa := fa) (aT := aT) (aD := aD) (aS := aS) (aU := aU) (um := um) (aK := aK) (aI := aI) (aL := aL) (aE := aE) (aF := aF) (sm := sm) (aP := aP) (aW := aW) (sn := sn) (aB := aB) (aM := aM) (t := t) (s := s) (l := l) (st := k) (wo := 0) (hT := by first | assumption | omega) (hS := by first | assumption | omega) (hl := by first | assumption | omega) (hst := by first | assumption | omega) (hwo := by first | assumption | omega)) Y_X8_isFed (ml_X8_144) [0, 1, 2] [] rfl rfl rfl rfl (by decide) rfl rfl rfl dX8_fedIn_15 rfl rfl rfl (Nat.le_of_ble_eq_true rfl) ⟨Nat.le_of_ble_eq_true rfl, Nat.le_of_ble_eq_true rfl⟩ ⟨Nat.le_of_ble_eq_true rfl, Nat.le_of_ble_eq_true rfl⟩ ⟨rfl, rfl⟩ (fun r1 w1 hQ => ?_)
      obtain ⟨rfl, rfl⟩ := hQ
      refine j_b_eq (pc' := 21) C 27 dX8_fedIn_18 (by decide) rfl (fun c18 => ?_) (fun c18 => ?_)
      · refine j_iconst (v := (nI 0)) (pc' := 28) C dX8_fedIn_27 rfl (by decide +kernel) ?_
        refine j_ior (v := (nI (z ||| 0))) (pc' := 29) C dX8_fedIn_28 rfl (fa_or z 0) ?_
        refine j_istore_n (pc' := 30) C [(2, .int (nI (z ||| 0))), (0, .ref a0), (1, .int (nI l)), (3, .int (nI k))] dX8_fedIn_29 rfl (by decide) rfl ?_
        refine j_iinc (v := (nI (k + 1))) (pc' := 33) C [(3, .int (nI (k + 1))), (2, .int (nI (z ||| 0))), (0, .ref a0), (1, .int (nI l))] dX8_fedIn_30 rfl 3 rfl (inc_n k 1) (by decide) rfl ?_
        refine j_goto C 4 dX8_fedIn_33 (by decide) ?_
        refine j_lsub [(0, .ref a0), (1, .int (nI l)), (2, .int (nI (z ||| 0))), (3, .int (nI (k + 1)))] [2, 3, 1, 0] rfl ?_
        exact ih4 (k + 1) (z ||| 0) (⟨by omega, by rw [bsN, ← hz]; simp [*]⟩) (by omega)
      · refine j_iconst (v := (nI 1)) (pc' := 22) C dX8_fedIn_21 rfl (by decide +kernel) ?_
        refine j_iload_n (pc' := 23) C dX8_fedIn_22 rfl 3 rfl ?_
        refine j_ishl (v := (nI (2 ^ k))) (pc' := 24) C dX8_fedIn_23 rfl (sh_1 (by omega)) ?_
        refine j_goto C 28 dX8_fedIn_24 (by decide) ?_
        refine j_ior (v := (nI (z ||| (2 ^ k)))) (pc' := 29) C dX8_fedIn_28 rfl (fa_or z (2 ^ k)) ?_
        refine j_istore_n (pc' := 30) C [(2, .int (nI (z ||| (2 ^ k)))), (0, .ref a0), (1, .int (nI l)), (3, .int (nI k))] dX8_fedIn_29 rfl (by decide) rfl ?_
        refine j_iinc (v := (nI (k + 1))) (pc' := 33) C [(3, .int (nI (k + 1))), (2, .int (nI (z ||| (2 ^ k)))), (0, .ref a0), (1, .int (nI l))] dX8_fedIn_30 rfl 3 rfl (inc_n k 1) (by decide) rfl ?_
        refine j_goto C 4 dX8_fedIn_33 (by decide) ?_
        refine j_lsub [(0, .ref a0), (1, .int (nI l)), (2, .int (nI (z ||| (2 ^ k)))), (3, .int (nI (k + 1)))] [2, 3, 1, 0] rfl ?_
        exact ih4 (k + 1) (z ||| (2 ^ k)) (⟨by omega, by rw [bsN, ← hz]; simp [*]⟩) (by omega)
  · exact ⟨Nat.zero_le _, rfl⟩
end
section
set_option maxHeartbeats 4000000 in
set_option maxRecDepth 100000 in
theorem c_X8_isContact {lch : Launch} {dG : va_G} {cyI cyZ cyO : ClassId} (a0 : Nat) (th : Int32) (aX : Nat) (ty : Int32) (sp : Int32) (tk : Int32) (pl : Int32) (va : Int32) (fa : Int32) (aT : Nat) (aD : Nat) (aS : Nat) (aU : Nat) (um : Int32) (aK : Nat) (aI : Nat) (aL : Nat) (aE : Nat) (aF : Nat) (sm : Int32) (aP : Nat) (aW : Nat) (sn : Int32) (aB : Nat) (aM : Nat) (t : Nat → Nat) (v : Int32) (hT : WT t) : Ki lch yX8_isContact cX8_isContact 2 .boolean (rmk 2) dG (cyI, cyZ, cyO) [.ref a0, .int v] [(a0, .inr (8, [.int th, .ref aX, .int ty, .int sp, .int tk, .int pl, .int va, .int fa, .ref aT, .ref aD, .ref aS, .ref aU, .int um, .ref aK, .ref aI, .ref aL, .ref aE, .ref aF, .int sm, .ref aP, .ref aW, .int sn, .ref aB, .ref aM])), (aT, .inl (cyI, 42, .inl (nA t)))] (fun r w1 => w1 = [(a0, .inr (8, [.int th, .ref aX, .int ty, .int sp, .int tk, .int pl, .int va, .int fa, .ref aT, .ref aD, .ref aS, .ref aU, .int um, .ref aK, .ref aI, .ref aL, .ref aE, .ref aF, .int sm, .ref aP, .ref aW, .int sn, .ref aB, .ref aM])), (aT, .inl (cyI, 42, .inl (nA t)))] ∧ r = (bI (inR v (t 1)))) := by
  have h1 := hT.n
  refine Ki.of (own := RX8) rfl (by decide) (Nat.le_of_ble_eq_true rfl) (fun p0 e0 s0 m0 ar0 be0 me0 cd0 A0 C hr hk hnm hA => ?_)
  refine j_lsub [(0, .ref a0), (1, .int v)] [0, 1] rfl ?_
  refine j_iload_n (pc' := 1) C dX8_isContact_0 rfl 1 rfl ?_
  refine j_iconst (v := (nI 0)) (pc' := 2) C dX8_isContact_1 rfl (by decide +kernel) ?_
  refine j_aload_n (pc' := 3) C dX8_isContact_2 rfl 0 rfl ?_
  refine j_get (v := .ref aT) (pc' := 6) C KX8 0 8 rfl (by decide) fl_X8_13 rfl rfl dX8_isContact_3 rfl ?_
  refine j_iconst (v := (nI 1)) (pc' := 7) C dX8_isContact_6 rfl (by decide +kernel) ?_
  refine j_nald (pc' := 8) C 1 rfl (by omega) (by decide) dX8_isContact_7 rfl ?_
  refine j_iconst (v := (nI 1)) (pc' := 9) C dX8_isContact_8 rfl (by decide +kernel) ?_
  refine j_isub (v := ((nI (t 1)) - (nI 1))) (pc' := 10) C dX8_isContact_9 rfl (rfl) ?_
  refine j_cSi (As := [.int v, .int (nI 0), .int ((nI (t 1)) - (nI 1))]) (wr := [(a0, .inr (8, [.int th, .ref aX, .int ty, .int sp, .int tk, .int pl, .int va, .int fa, .ref aT, .ref aD, .ref aS, .ref aU, .int um, .ref aK, .ref aI, .ref aL, .ref aE, .ref aF, .int sm, .ref aP, .ref aW, .int sn, .ref aB, .ref aM])), (aT, .inl (cyI, 42, .inl (nA t)))]) (pc' := 13) C (c_X8_in (x := v) (a := (nI 0)) (b := ((nI (t 1)) - (nI 1))) ) Y_X8_in (ml_X8_63) [] [0, 1] rfl rfl rfl rfl (by decide) dX8_isContact_10 rfl rfl rfl (Nat.le_of_ble_eq_true rfl) ⟨Nat.le_of_ble_eq_true rfl, Nat.le_of_ble_eq_true rfl⟩ ⟨Nat.le_of_ble_eq_true rfl, Nat.le_of_ble_eq_true rfl⟩ ⟨rfl, rfl⟩ (fun r1 w1 hQ => ?_)
  obtain ⟨rfl, rfl⟩ := hQ
  refine j_perm [(a0, .inr (8, [.int th, .ref aX, .int ty, .int sp, .int tk, .int pl, .int va, .int fa, .ref aT, .ref aD, .ref aS, .ref aU, .int um, .ref aK, .ref aI, .ref aL, .ref aE, .ref aF, .int sm, .ref aP, .ref aW, .int sn, .ref aB, .ref aM])), (aT, .inl (cyI, 42, .inl (nA t)))] [0, 1] rfl rfl (by decide) ?_
  exact j_iret C hr hk hA dX8_isContact_13 (nrw_bI _) (⟨rfl, by rw [in_R _ _ (by omega)]⟩)

set_option maxHeartbeats 4000000 in
set_option maxRecDepth 100000 in
theorem c_X8_isLoad {lch : Launch} {dG : va_G} {cyI cyZ cyO : ClassId} (a0 : Nat) (th : Int32) (aX : Nat) (ty : Int32) (sp : Int32) (tk : Int32) (pl : Int32) (va : Int32) (fa : Int32) (aT : Nat) (aD : Nat) (aS : Nat) (aU : Nat) (um : Int32) (aK : Nat) (aI : Nat) (aL : Nat) (aE : Nat) (aF : Nat) (sm : Int32) (aP : Nat) (aW : Nat) (sn : Int32) (aB : Nat) (aM : Nat) (t : Nat → Nat) (v : Int32) (hT : WT t) : Ki lch yX8_isLoad cX8_isLoad 2 .boolean (rmk 2) dG (cyI, cyZ, cyO) [.ref a0, .int v] [(a0, .inr (8, [.int th, .ref aX, .int ty, .int sp, .int tk, .int pl, .int va, .int fa, .ref aT, .ref aD, .ref aS, .ref aU, .int um, .ref aK, .ref aI, .ref aL, .ref aE, .ref aF, .int sm, .ref aP, .ref aW, .int sn, .ref aB, .ref aM])), (aT, .inl (cyI, 42, .inl (nA t)))] (fun r w1 => w1 = [(a0, .inr (8, [.int th, .ref aX, .int ty, .int sp, .int tk, .int pl, .int va, .int fa, .ref aT, .ref aD, .ref aS, .ref aU, .int um, .ref aK, .ref aI, .ref aL, .ref aE, .ref aF, .int sm, .ref aP, .ref aW, .int sn, .ref aB, .ref aM])), (aT, .inl (cyI, 42, .inl (nA t)))] ∧ r = (bI (inR v (t 2)))) := by
  have h1 := hT.n
  refine Ki.of (own := RX8) rfl (by decide) (Nat.le_of_ble_eq_true rfl) (fun p0 e0 s0 m0 ar0 be0 me0 cd0 A0 C hr hk hnm hA => ?_)
  refine j_lsub [(0, .ref a0), (1, .int v)] [0, 1] rfl ?_
  refine j_iload_n (pc' := 1) C dX8_isLoad_0 rfl 1 rfl ?_
  refine j_iconst (v := (nI 0)) (pc' := 2) C dX8_isLoad_1 rfl (by decide +kernel) ?_
  refine j_aload_n (pc' := 3) C dX8_isLoad_2 rfl 0 rfl ?_
  refine j_get (v := .ref aT) (pc' := 6) C KX8 0 8 rfl (by decide) fl_X8_13 rfl rfl dX8_isLoad_3 rfl ?_
  refine j_iconst (v := (nI 2)) (pc' := 7) C dX8_isLoad_6 rfl (by decide +kernel) ?_
  refine j_nald (pc' := 8) C 1 rfl (by omega) (by decide) dX8_isLoad_7 rfl ?_
  refine j_iconst (v := (nI 1)) (pc' := 9) C dX8_isLoad_8 rfl (by decide +kernel) ?_
  refine j_isub (v := ((nI (t 2)) - (nI 1))) (pc' := 10) C dX8_isLoad_9 rfl (rfl) ?_
  refine j_cSi (As := [.int v, .int (nI 0), .int ((nI (t 2)) - (nI 1))]) (wr := [(a0, .inr (8, [.int th, .ref aX, .int ty, .int sp, .int tk, .int pl, .int va, .int fa, .ref aT, .ref aD, .ref aS, .ref aU, .int um, .ref aK, .ref aI, .ref aL, .ref aE, .ref aF, .int sm, .ref aP, .ref aW, .int sn, .ref aB, .ref aM])), (aT, .inl (cyI, 42, .inl (nA t)))]) (pc' := 13) C (c_X8_in (x := v) (a := (nI 0)) (b := ((nI (t 2)) - (nI 1))) ) Y_X8_in (ml_X8_63) [] [0, 1] rfl rfl rfl rfl (by decide) dX8_isLoad_10 rfl rfl rfl (Nat.le_of_ble_eq_true rfl) ⟨Nat.le_of_ble_eq_true rfl, Nat.le_of_ble_eq_true rfl⟩ ⟨Nat.le_of_ble_eq_true rfl, Nat.le_of_ble_eq_true rfl⟩ ⟨rfl, rfl⟩ (fun r1 w1 hQ => ?_)
  obtain ⟨rfl, rfl⟩ := hQ
  refine j_perm [(a0, .inr (8, [.int th, .ref aX, .int ty, .int sp, .int tk, .int pl, .int va, .int fa, .ref aT, .ref aD, .ref aS, .ref aU, .int um, .ref aK, .ref aI, .ref aL, .ref aE, .ref aF, .int sm, .ref aP, .ref aW, .int sn, .ref aB, .ref aM])), (aT, .inl (cyI, 42, .inl (nA t)))] [0, 1] rfl rfl (by decide) ?_
  exact j_iret C hr hk hA dX8_isLoad_13 (nrw_bI _) (⟨rfl, by rw [in_R _ _ (by omega)]⟩)

set_option maxHeartbeats 4000000 in
set_option maxRecDepth 100000 in
theorem c_X8_isState {lch : Launch} {dG : va_G} {cyI cyZ cyO : ClassId} (v : Int32)  : Ki lch yX8_isState cX8_isState 1 .boolean (rmk 2) dG (cyI, cyZ, cyO) [.int v] [] (fun r w1 => w1 = [] ∧ r = (bI (inR v 16))) := by
  refine Ki.of (own := RX8) rfl (by decide) (Nat.le_of_ble_eq_true rfl) (fun p0 e0 s0 m0 ar0 be0 me0 cd0 A0 C hr hk hnm hA => ?_)
  refine j_lsub [(0, .int v)] [0] rfl ?_
  refine j_iload_n (pc' := 1) C dX8_isState_0 rfl 0 rfl ?_
  refine j_iconst (v := (nI 0)) (pc' := 2) C dX8_isState_1 rfl (by decide +kernel) ?_
  refine j_bipush (v := (nI 15)) (pc' := 4) C dX8_isState_2 rfl (by decide +kernel) ?_
  refine j_cSi (As := [.int v, .int (nI 0), .int (nI 15)]) (wr := []) (pc' := 7) C (c_X8_in (x := v) (a := (nI 0)) (b := (nI 15)) ) Y_X8_in (ml_X8_63) [] [] rfl rfl rfl rfl (by decide) dX8_isState_4 rfl rfl rfl (Nat.le_of_ble_eq_true rfl) ⟨Nat.le_of_ble_eq_true rfl, Nat.le_of_ble_eq_true rfl⟩ ⟨Nat.le_of_ble_eq_true rfl, Nat.le_of_ble_eq_true rfl⟩ ⟨rfl, rfl⟩ (fun r1 w1 hQ => ?_)
  obtain ⟨rfl, rfl⟩ := hQ
  exact j_iret C hr hk hA dX8_isState_7 (nrw_bI _) (⟨rfl, by rw [in_R2 _ _ (by omega)]⟩)

set_option maxHeartbeats 4000000 in
set_option maxRecDepth 100000 in
theorem c_X8_type {lch : Launch} {dG : va_G} {cyI cyZ cyO : ClassId} (a0 : Nat) (th : Int32) (aX : Nat) (sp : Int32) (tk : Int32) (pl : Int32) (va : Int32) (fa : Int32) (aT : Nat) (aD : Nat) (aS : Nat) (aU : Nat) (um : Int32) (aK : Nat) (aI : Nat) (aL : Nat) (aE : Nat) (aF : Nat) (sm : Int32) (aP : Nat) (aW : Nat) (sn : Int32) (aB : Nat) (aM : Nat) (x : Nat → Nat) (n : Nat) (v : Int32) (hn : n ≤ 100) : Ki lch yX8_type cX8_type 2 .int (rmk 2) dG (cyI, cyZ, cyO) [.ref a0, .int v] [(a0, .inr (8, [.int th, .ref aX, .int (nI n), .int sp, .int tk, .int pl, .int va, .int fa, .ref aT, .ref aD, .ref aS, .ref aU, .int um, .ref aK, .ref aI, .ref aL, .ref aE, .ref aF, .int sm, .ref aP, .ref aW, .int sn, .ref aB, .ref aM])), (aX, .inl (cyI, 100, .inl (nA x)))] (fun r w1 => ∃ (x1 : Nat → Nat), ∃ (n1 : Nat), w1 = [(a0, .inr (8, [.int (nI 0), .ref aX, .int (nI n1), .int sp, .int tk, .int pl, .int va, .int fa, .ref aT, .ref aD, .ref aS, .ref aU, .int um, .ref aK, .ref aI, .ref aL, .ref aE, .ref aF, .int sm, .ref aP, .ref aW, .int sn, .ref aB, .ref aM])), (aX, .inl (cyI, 100, .inl (nA x1)))] ∧ (r, x1, n1) = tyQ x n v) := by
  refine Ki.of (own := RX8) rfl (by decide) (Nat.le_of_ble_eq_true rfl) (fun p0 e0 s0 m0 ar0 be0 me0 cd0 A0 C hr hk hnm hA => ?_)
  refine j_lsub [(0, .ref a0), (1, .int v)] [0, 1] rfl ?_
  refine j_aload_n (pc' := 1) C dX8_type_0 rfl 0 rfl ?_
  refine j_iconst (v := (nI 0)) (pc' := 2) C dX8_type_1 rfl (by decide +kernel) ?_
  refine j_put (pc' := 5) C [(a0, .inr (8, [.int (nI 0), .ref aX, .int (nI n), .int sp, .int tk, .int pl, .int va, .int fa, .ref aT, .ref aD, .ref aS, .ref aU, .int um, .ref aK, .ref aI, .ref aL, .ref aE, .ref aF, .int sm, .ref aP, .ref aW, .int sn, .ref aB, .ref aM])), (aX, .inl (cyI, 100, .inl (nA x)))] KX8 0 0 rfl (by decide) fl_X8_59 rfl rfl rfl rfl (Nat.le_of_ble_eq_true rfl) dX8_type_2 rfl rfl ?_
  refine j_iload_n (pc' := 6) C dX8_type_5 rfl 1 rfl ?_
  refine j_iconst (v := (nI 0)) (pc' := 7) C dX8_type_6 rfl (by decide +kernel) ?_
  refine j_sipush (v := (nI 255)) (pc' := 10) C dX8_type_7 rfl (by decide +kernel) ?_
  refine j_cSi (As := [.int v, .int (nI 0), .int (nI 255)]) (wr := [(a0, .inr (8, [.int (nI 0), .ref aX, .int (nI n), .int sp, .int tk, .int pl, .int va, .int fa, .ref aT, .ref aD, .ref aS, .ref aU, .int um, .ref aK, .ref aI, .ref aL, .ref aE, .ref aF, .int sm, .ref aP, .ref aW, .int sn, .ref aB, .ref aM])), (aX, .inl (cyI, 100, .inl (nA x)))]) (pc' := 13) C (c_X8_in (x := v) (a := (nI 0)) (b := (nI 255)) ) Y_X8_in (ml_X8_63) [] [0, 1] rfl rfl rfl rfl (by decide) dX8_type_10 rfl rfl rfl (Nat.le_of_ble_eq_true rfl) ⟨Nat.le_of_ble_eq_true rfl, Nat.le_of_ble_eq_true rfl⟩ ⟨Nat.le_of_ble_eq_true rfl, Nat.le_of_ble_eq_true rfl⟩ ⟨rfl, rfl⟩ (fun r1 w1 hQ => ?_)
  obtain ⟨rfl, rfl⟩ := hQ
  refine j_perm [(a0, .inr (8, [.int (nI 0), .ref aX, .int (nI n), .int sp, .int tk, .int pl, .int va, .int fa, .ref aT, .ref aD, .ref aS, .ref aU, .int um, .ref aK, .ref aI, .ref aL, .ref aE, .ref aF, .int sm, .ref aP, .ref aW, .int sn, .ref aB, .ref aM])), (aX, .inl (cyI, 100, .inl (nA x)))] [0, 1] rfl rfl (by decide) ?_
  refine j_b_ne (pc' := 16) C 18 dX8_type_13 (by decide) rfl (fun c13 => ?_) (fun c13 => ?_)
  · rw [in_R2 _ _ (by omega)] at c13
    obtain ⟨j, hj, rfl⟩ := inR_t c13 (by omega)
    refine j_aload_n (pc' := 19) C dX8_type_18 rfl 0 rfl ?_
    refine j_get (v := .int (nI n)) (pc' := 22) C KX8 0 2 rfl (by decide) fl_X8_67 rfl rfl dX8_type_19 rfl ?_
    refine j_bipush (v := (nI 100)) (pc' := 24) C dX8_type_22 rfl (by decide +kernel) ?_
    refine j_nc_ne (pc' := 27) C 30 dX8_type_24 (by decide) rfl (by omega) (by omega) (fun c24 => ?_) (fun c24 => ?_)
    · refine j_aload_n (pc' := 31) C dX8_type_30 rfl 0 rfl ?_
      refine j_get (v := .ref aX) (pc' := 34) C KX8 0 1 rfl (by decide) fl_X8_7 rfl rfl dX8_type_31 rfl ?_
      refine j_aload_n (pc' := 35) C dX8_type_34 rfl 0 rfl ?_
      refine j_get (v := .int (nI n)) (pc' := 38) C KX8 0 2 rfl (by decide) fl_X8_67 rfl rfl dX8_type_35 rfl ?_
      refine j_iload_n (pc' := 39) C dX8_type_38 rfl 1 rfl ?_
      refine j_nast (pc' := 40) C [(a0, .inr (8, [.int (nI 0), .ref aX, .int (nI n), .int sp, .int tk, .int pl, .int va, .int fa, .ref aT, .ref aD, .ref aS, .ref aU, .int um, .ref aK, .ref aI, .ref aL, .ref aE, .ref aF, .int sm, .ref aP, .ref aW, .int sn, .ref aB, .ref aM])), (aX, .inl (cyI, 100, .inl (nA (uN x n j))))] 1 rfl (by omega) (by decide) dX8_type_39 rfl rfl ?_
      refine j_aload_n (pc' := 41) C dX8_type_40 rfl 0 rfl ?_
      refine j_dup (pc' := 42) C dX8_type_41 rfl rfl ?_
      refine j_get (v := .int (nI n)) (pc' := 45) C KX8 0 2 rfl (by decide) fl_X8_67 rfl rfl dX8_type_42 rfl ?_
      refine j_iconst (v := (nI 1)) (pc' := 46) C dX8_type_45 rfl (by decide +kernel) ?_
      refine j_iadd (v := (nI (n + 1))) (pc' := 47) C dX8_type_46 rfl (nI_add n 1) ?_
      refine j_put (pc' := 50) C [(a0, .inr (8, [.int (nI 0), .ref aX, .int (nI (n + 1)), .int sp, .int tk, .int pl, .int va, .int fa, .ref aT, .ref aD, .ref aS, .ref aU, .int um, .ref aK, .ref aI, .ref aL, .ref aE, .ref aF, .int sm, .ref aP, .ref aW, .int sn, .ref aB, .ref aM])), (aX, .inl (cyI, 100, .inl (nA (uN x n j))))] KX8 0 2 rfl (by decide) fl_X8_67 rfl rfl rfl rfl (Nat.le_of_ble_eq_true rfl) dX8_type_47 rfl rfl ?_
      refine j_aload_n (pc' := 51) C dX8_type_50 rfl 0 rfl ?_
      refine j_get (v := .int (nI (n + 1))) (pc' := 54) C KX8 0 2 rfl (by decide) fl_X8_67 rfl rfl dX8_type_51 rfl ?_
      exact j_iret C hr hk hA dX8_type_54 (rfl) (⟨_, _, rfl, by unfold tyQ; rw [if_neg (by simp [c13]), if_neg c24, nI_clamp (by omega)]⟩)
    · refine j_bipush (v := (-3)) (pc' := 29) C dX8_type_27 rfl (by decide +kernel) ?_
      exact j_iret C hr hk hA dX8_type_29 (rfl) (⟨x, n, rfl, by unfold tyQ; rw [if_neg (by simp [c13]), if_pos c24]⟩)
  · rw [in_R2 _ _ (by omega)] at c13
    refine j_iconst (v := (-1)) (pc' := 17) C dX8_type_16 rfl (by decide +kernel) ?_
    exact j_iret C hr hk hA dX8_type_17 (rfl) (⟨x, n, rfl, by unfold tyQ; rw [if_pos c13]⟩)

set_option maxHeartbeats 4000000 in
set_option maxRecDepth 100000 in
theorem c_X8_clear {lch : Launch} {dG : va_G} {cyI cyZ cyO : ClassId} (a0 : Nat) (th : Int32) (aX : Nat) (sp : Int32) (tk : Int32) (pl : Int32) (va : Int32) (fa : Int32) (aT : Nat) (aD : Nat) (aS : Nat) (aU : Nat) (um : Int32) (aK : Nat) (aI : Nat) (aL : Nat) (aE : Nat) (aF : Nat) (sm : Int32) (aP : Nat) (aW : Nat) (sn : Int32) (aB : Nat) (aM : Nat) (n : Nat)  : Ki lch yX8_clear cX8_clear 2 .int (rmk 1) dG (cyI, cyZ, cyO) [.ref a0] [(a0, .inr (8, [.int th, .ref aX, .int (nI n), .int sp, .int tk, .int pl, .int va, .int fa, .ref aT, .ref aD, .ref aS, .ref aU, .int um, .ref aK, .ref aI, .ref aL, .ref aE, .ref aF, .int sm, .ref aP, .ref aW, .int sn, .ref aB, .ref aM]))] (fun r w1 => w1 = [(a0, .inr (8, [.int (nI 0), .ref aX, .int (nI 0), .int sp, .int tk, .int pl, .int va, .int fa, .ref aT, .ref aD, .ref aS, .ref aU, .int um, .ref aK, .ref aI, .ref aL, .ref aE, .ref aF, .int sm, .ref aP, .ref aW, .int sn, .ref aB, .ref aM]))] ∧ r = (nI n)) := by
  refine Ki.of (own := RX8) rfl (by decide) (Nat.le_of_ble_eq_true rfl) (fun p0 e0 s0 m0 ar0 be0 me0 cd0 A0 C hr hk hnm hA => ?_)
  refine j_lsub [(0, .ref a0)] [0] rfl ?_
  refine j_aload_n (pc' := 1) C dX8_clear_0 rfl 0 rfl ?_
  refine j_iconst (v := (nI 0)) (pc' := 2) C dX8_clear_1 rfl (by decide +kernel) ?_
  refine j_put (pc' := 5) C [(a0, .inr (8, [.int (nI 0), .ref aX, .int (nI n), .int sp, .int tk, .int pl, .int va, .int fa, .ref aT, .ref aD, .ref aS, .ref aU, .int um, .ref aK, .ref aI, .ref aL, .ref aE, .ref aF, .int sm, .ref aP, .ref aW, .int sn, .ref aB, .ref aM]))] KX8 0 0 rfl (by decide) fl_X8_59 rfl rfl rfl rfl (Nat.le_of_ble_eq_true rfl) dX8_clear_2 rfl rfl ?_
  refine j_aload_n (pc' := 6) C dX8_clear_5 rfl 0 rfl ?_
  refine j_get (v := .int (nI n)) (pc' := 9) C KX8 0 2 rfl (by decide) fl_X8_67 rfl rfl dX8_clear_6 rfl ?_
  refine j_istore_n (pc' := 10) C [(1, .int (nI n)), (0, .ref a0)] dX8_clear_9 rfl (by decide) rfl ?_
  refine j_aload_n (pc' := 11) C dX8_clear_10 rfl 1 rfl ?_
  refine j_iconst (v := (nI 0)) (pc' := 12) C dX8_clear_11 rfl (by decide +kernel) ?_
  refine j_put (pc' := 15) C [(a0, .inr (8, [.int (nI 0), .ref aX, .int (nI 0), .int sp, .int tk, .int pl, .int va, .int fa, .ref aT, .ref aD, .ref aS, .ref aU, .int um, .ref aK, .ref aI, .ref aL, .ref aE, .ref aF, .int sm, .ref aP, .ref aW, .int sn, .ref aB, .ref aM]))] KX8 0 2 rfl (by decide) fl_X8_67 rfl rfl rfl rfl (Nat.le_of_ble_eq_true rfl) dX8_clear_12 rfl rfl ?_
  refine j_iload_n (pc' := 16) C dX8_clear_15 rfl 0 rfl ?_
  exact j_iret C hr hk hA dX8_clear_16 (rfl) (⟨rfl, rfl⟩)

set_option maxHeartbeats 4000000 in
set_option maxRecDepth 100000 in
theorem c_X8_contact {lch : Launch} {dG : va_G} {cyI cyZ cyO : ClassId} (a0 : Nat) (th : Int32) (aX : Nat) (ty : Int32) (sp : Int32) (tk : Int32) (pl : Int32) (va : Int32) (fa : Int32) (aT : Nat) (aD : Nat) (aS : Nat) (aU : Nat) (um : Int32) (aK : Nat) (aI : Nat) (aL : Nat) (aE : Nat) (aF : Nat) (sm : Int32) (aP : Nat) (aW : Nat) (sn : Int32) (aB : Nat) (aM : Nat) (t : Nat → Nat) (s : Nat → Nat) (cc : Int32) (w : Int32) (hT : WT t) (hS : WS s) : Ki lch yX8_contact cX8_contact 3 .int (rmk 3) dG (cyI, cyZ, cyO) [.ref a0, .int cc, .int w] [(a0, .inr (8, [.int th, .ref aX, .int ty, .int sp, .int tk, .int pl, .int va, .int fa, .ref aT, .ref aD, .ref aS, .ref aU, .int um, .ref aK, .ref aI, .ref aL, .ref aE, .ref aF, .int sm, .ref aP, .ref aW, .int sn, .ref aB, .ref aM])), (aT, .inl (cyI, 42, .inl (nA t))), (aS, .inl (cyI, 30, .inl (nA s)))] (fun r w1 => w1 = [(a0, .inr (8, [.int (nI 0), .ref aX, .int ty, .int sp, .int tk, .int pl, .int va, .int fa, .ref aT, .ref aD, .ref aS, .ref aU, .int um, .ref aK, .ref aI, .ref aL, .ref aE, .ref aF, .int sm, .ref aP, .ref aW, .int sn, .ref aB, .ref aM])), (aT, .inl (cyI, 42, .inl (nA t))), (aS, .inl (cyI, 30, .inl (nA s)))] ∧ r = (ctQ t s cc w)) := by
  have h1 := hT.n
  refine Ki.of (own := RX8) rfl (by decide) (Nat.le_of_ble_eq_true rfl) (fun p0 e0 s0 m0 ar0 be0 me0 cd0 A0 C hr hk hnm hA => ?_)
  refine j_lsub [(0, .ref a0), (1, .int cc), (2, .int w)] [0, 1, 2] rfl ?_
  refine j_aload_n (pc' := 1) C dX8_contact_0 rfl 0 rfl ?_
  refine j_iconst (v := (nI 0)) (pc' := 2) C dX8_contact_1 rfl (by decide +kernel) ?_
  refine j_put (pc' := 5) C [(a0, .inr (8, [.int (nI 0), .ref aX, .int ty, .int sp, .int tk, .int pl, .int va, .int fa, .ref aT, .ref aD, .ref aS, .ref aU, .int um, .ref aK, .ref aI, .ref aL, .ref aE, .ref aF, .int sm, .ref aP, .ref aW, .int sn, .ref aB, .ref aM])), (aT, .inl (cyI, 42, .inl (nA t))), (aS, .inl (cyI, 30, .inl (nA s)))] KX8 0 0 rfl (by decide) fl_X8_59 rfl rfl rfl rfl (Nat.le_of_ble_eq_true rfl) dX8_contact_2 rfl rfl ?_
  refine j_aload_n (pc' := 6) C dX8_contact_5 rfl 0 rfl ?_
  refine j_iload_n (pc' := 7) C dX8_contact_6 rfl 1 rfl ?_
  refine j_cVi (As := [.int cc]) (wr := [(aS, .inl (cyI, 30, .inl (nA s)))]) (pc' := 10) C (c_X8_isContact (a0 := a0) (th := (nI 0)) (aX := aX) (ty := ty) (sp := sp) (tk := tk) (pl := pl) (va := va) (fa := fa) (aT := aT) (aD := aD) (aS := aS) (aU := aU) (um := um) (aK := aK) (aI := aI) (aL := aL) (aE := aE) (aF := aF) (sm := sm) (aP := aP) (aW := aW) (sn := sn) (aB := aB) (aM := aM) (t := t) (v := cc) (hT := by first | assumption | omega)) Y_X8_isContact (ml_X8_147) [0, 1] [2] rfl rfl rfl rfl (by decide) rfl rfl rfl dX8_contact_7 rfl rfl rfl (Nat.le_of_ble_eq_true rfl) ⟨Nat.le_of_ble_eq_true rfl, Nat.le_of_ble_eq_true rfl⟩ ⟨Nat.le_of_ble_eq_true rfl, Nat.le_of_ble_eq_true rfl⟩ ⟨rfl, rfl⟩ (fun r1 w1 hQ => ?_)
  obtain ⟨rfl, rfl⟩ := hQ
  refine j_perm [(a0, .inr (8, [.int (nI 0), .ref aX, .int ty, .int sp, .int tk, .int pl, .int va, .int fa, .ref aT, .ref aD, .ref aS, .ref aU, .int um, .ref aK, .ref aI, .ref aL, .ref aE, .ref aF, .int sm, .ref aP, .ref aW, .int sn, .ref aB, .ref aM])), (aT, .inl (cyI, 42, .inl (nA t))), (aS, .inl (cyI, 30, .inl (nA s)))] [1, 2, 0] rfl rfl (by decide) ?_
  refine j_b_eq (pc' := 13) C 23 dX8_contact_10 (by decide) rfl (fun c10 => ?_) (fun c10 => ?_)
  · refine j_iconst (v := (-1)) (pc' := 24) C dX8_contact_23 rfl (by decide +kernel) ?_
    exact j_iret C hr hk hA dX8_contact_24 (rfl) (⟨rfl, by unfold ctQ; rw [if_pos c10]⟩)
  · obtain ⟨j, hj, rfl⟩ := inR_t c10 (by omega)
    have h3 := hS.c (c := j) (by omega)
    refine j_iload_n (pc' := 14) C dX8_contact_13 rfl 2 rfl ?_
    refine j_iconst (v := (nI 0)) (pc' := 15) C dX8_contact_14 rfl (by decide +kernel) ?_
    refine j_bipush (v := (nI 6)) (pc' := 17) C dX8_contact_15 rfl (by decide +kernel) ?_
    refine j_cSi (As := [.int w, .int (nI 0), .int (nI 6)]) (wr := [(a0, .inr (8, [.int (nI 0), .ref aX, .int ty, .int sp, .int tk, .int pl, .int va, .int fa, .ref aT, .ref aD, .ref aS, .ref aU, .int um, .ref aK, .ref aI, .ref aL, .ref aE, .ref aF, .int sm, .ref aP, .ref aW, .int sn, .ref aB, .ref aM])), (aT, .inl (cyI, 42, .inl (nA t))), (aS, .inl (cyI, 30, .inl (nA s)))]) (pc' := 20) C (c_X8_in (x := w) (a := (nI 0)) (b := (nI 6)) ) Y_X8_in (ml_X8_63) [] [0, 1, 2] rfl rfl rfl rfl (by decide) dX8_contact_17 rfl rfl rfl (Nat.le_of_ble_eq_true rfl) ⟨Nat.le_of_ble_eq_true rfl, Nat.le_of_ble_eq_true rfl⟩ ⟨Nat.le_of_ble_eq_true rfl, Nat.le_of_ble_eq_true rfl⟩ ⟨rfl, rfl⟩ (fun r2 w1 hQ => ?_)
    obtain ⟨rfl, rfl⟩ := hQ
    refine j_perm [(a0, .inr (8, [.int (nI 0), .ref aX, .int ty, .int sp, .int tk, .int pl, .int va, .int fa, .ref aT, .ref aD, .ref aS, .ref aU, .int um, .ref aK, .ref aI, .ref aL, .ref aE, .ref aF, .int sm, .ref aP, .ref aW, .int sn, .ref aB, .ref aM])), (aT, .inl (cyI, 42, .inl (nA t))), (aS, .inl (cyI, 30, .inl (nA s)))] [0, 1, 2] rfl rfl (by decide) ?_
    refine j_b_ne (pc' := 23) C 25 dX8_contact_20 (by decide) rfl (fun c20 => ?_) (fun c20 => ?_)
    · rw [in_R2 _ _ (by omega)] at c20
      obtain ⟨q, hq, rfl⟩ := inR_t c20 (by omega)
      refine j_iload_n (pc' := 26) C dX8_contact_25 rfl 2 rfl ?_
      refine j_iconst (v := (nI 4)) (pc' := 27) C dX8_contact_26 rfl (by decide +kernel) ?_
      refine j_nc_ge (pc' := 30) C 89 dX8_contact_27 (by decide) rfl (by omega) (by omega) (fun c27 => ?_) (fun c27 => ?_)
      · refine j_iload_n (pc' := 90) C dX8_contact_89 rfl 2 rfl ?_
        refine j_iconst (v := (nI 4)) (pc' := 91) C dX8_contact_90 rfl (by decide +kernel) ?_
        refine j_nc_ne (pc' := 94) C 105 dX8_contact_91 (by decide) rfl (by omega) (by omega) (fun c91 => ?_) (fun c91 => ?_)
        · refine j_iload_n (pc' := 106) C dX8_contact_105 rfl 2 rfl ?_
          refine j_iconst (v := (nI 5)) (pc' := 107) C dX8_contact_106 rfl (by decide +kernel) ?_
          refine j_nc_ne (pc' := 110) C 139 dX8_contact_107 (by decide) rfl (by omega) (by omega) (fun c107 => ?_) (fun c107 => ?_)
          · refine j_aload_n (pc' := 140) C dX8_contact_139 rfl 0 rfl ?_
            refine j_get (v := .ref aS) (pc' := 143) C KX8 0 10 rfl (by decide) fl_X8_19 rfl rfl dX8_contact_140 rfl ?_
            refine j_bipush (v := (nI 21)) (pc' := 145) C dX8_contact_143 rfl (by decide +kernel) ?_
            refine j_iload_n (pc' := 146) C dX8_contact_145 rfl 1 rfl ?_
            refine j_iadd (v := (nI (21 + j))) (pc' := 147) C dX8_contact_146 rfl (nI_add 21 j) ?_
            refine j_nald (pc' := 148) C 2 rfl (by omega) (by decide) dX8_contact_147 rfl ?_
            exact j_iret C hr hk hA dX8_contact_148 (rfl) (⟨rfl, (by unfold ctQ; rw [if_neg (by simp [c10]), nI_clamp (by omega)]; simp only [nI_eq (show q < 2147483648 by omega) (show 0 < 2147483648 by decide), nI_eq (show q < 2147483648 by omega) (show 1 < 2147483648 by decide), nI_eq (show q < 2147483648 by omega) (show 2 < 2147483648 by decide), nI_eq (show q < 2147483648 by omega) (show 3 < 2147483648 by decide), nI_eq (show q < 2147483648 by omega) (show 4 < 2147483648 by decide), nI_eq (show q < 2147483648 by omega) (show 5 < 2147483648 by decide), nI_eq (show q < 2147483648 by omega) (show 6 < 2147483648 by decide)]; repeat (first | rw [if_neg (by omega)] | rw [if_pos (by omega)]))⟩)
          · refine j_aload_n (pc' := 111) C dX8_contact_110 rfl 0 rfl ?_
            refine j_get (v := .ref aS) (pc' := 114) C KX8 0 10 rfl (by decide) fl_X8_19 rfl rfl dX8_contact_111 rfl ?_
            refine j_iconst (v := (nI 3)) (pc' := 115) C dX8_contact_114 rfl (by decide +kernel) ?_
            refine j_iload_n (pc' := 116) C dX8_contact_115 rfl 1 rfl ?_
            refine j_iadd (v := (nI (3 + j))) (pc' := 117) C dX8_contact_116 rfl (nI_add 3 j) ?_
            refine j_nald (pc' := 118) C 2 rfl (by omega) (by decide) dX8_contact_117 rfl ?_
            refine j_iconst (v := (nI 2)) (pc' := 119) C dX8_contact_118 rfl (by decide +kernel) ?_
            refine j_nc_ge (pc' := 122) C 134 dX8_contact_119 (by decide) rfl (by omega) (by omega) (fun c119 => ?_) (fun c119 => ?_)
            · refine j_bipush (v := (-9)) (pc' := 136) C dX8_contact_134 rfl (by decide +kernel) ?_
              refine j_goto C 148 dX8_contact_136 (by decide) ?_
              exact j_iret C hr hk hA dX8_contact_148 (rfl) (⟨rfl, (by unfold ctQ; rw [if_neg (by simp [c10]), nI_clamp (by omega)]; simp only [nI_eq (show q < 2147483648 by omega) (show 0 < 2147483648 by decide), nI_eq (show q < 2147483648 by omega) (show 1 < 2147483648 by decide), nI_eq (show q < 2147483648 by omega) (show 2 < 2147483648 by decide), nI_eq (show q < 2147483648 by omega) (show 3 < 2147483648 by decide), nI_eq (show q < 2147483648 by omega) (show 4 < 2147483648 by decide), nI_eq (show q < 2147483648 by omega) (show 5 < 2147483648 by decide), nI_eq (show q < 2147483648 by omega) (show 6 < 2147483648 by decide)]; repeat (first | rw [if_neg (by omega)] | rw [if_pos (by omega)]))⟩)
            · refine j_aload_n (pc' := 123) C dX8_contact_122 rfl 0 rfl ?_
              refine j_get (v := .ref aS) (pc' := 126) C KX8 0 10 rfl (by decide) fl_X8_19 rfl rfl dX8_contact_123 rfl ?_
              refine j_bipush (v := (nI 12)) (pc' := 128) C dX8_contact_126 rfl (by decide +kernel) ?_
              refine j_iload_n (pc' := 129) C dX8_contact_128 rfl 1 rfl ?_
              refine j_iadd (v := (nI (12 + j))) (pc' := 130) C dX8_contact_129 rfl (nI_add 12 j) ?_
              refine j_nald (pc' := 131) C 2 rfl (by omega) (by decide) dX8_contact_130 rfl ?_
              refine j_goto C 148 dX8_contact_131 (by decide) ?_
              exact j_iret C hr hk hA dX8_contact_148 (rfl) (⟨rfl, (by unfold ctQ; rw [if_neg (by simp [c10]), nI_clamp (by omega)]; simp only [nI_eq (show q < 2147483648 by omega) (show 0 < 2147483648 by decide), nI_eq (show q < 2147483648 by omega) (show 1 < 2147483648 by decide), nI_eq (show q < 2147483648 by omega) (show 2 < 2147483648 by decide), nI_eq (show q < 2147483648 by omega) (show 3 < 2147483648 by decide), nI_eq (show q < 2147483648 by omega) (show 4 < 2147483648 by decide), nI_eq (show q < 2147483648 by omega) (show 5 < 2147483648 by decide), nI_eq (show q < 2147483648 by omega) (show 6 < 2147483648 by decide)]; repeat (first | rw [if_neg (by omega)] | rw [if_pos (by omega)]))⟩)
        · refine j_aload_n (pc' := 95) C dX8_contact_94 rfl 0 rfl ?_
          refine j_get (v := .ref aS) (pc' := 98) C KX8 0 10 rfl (by decide) fl_X8_19 rfl rfl dX8_contact_95 rfl ?_
          refine j_iconst (v := (nI 3)) (pc' := 99) C dX8_contact_98 rfl (by decide +kernel) ?_
          refine j_iload_n (pc' := 100) C dX8_contact_99 rfl 1 rfl ?_
          refine j_iadd (v := (nI (3 + j))) (pc' := 101) C dX8_contact_100 rfl (nI_add 3 j) ?_
          refine j_nald (pc' := 102) C 2 rfl (by omega) (by decide) dX8_contact_101 rfl ?_
          refine j_goto C 148 dX8_contact_102 (by decide) ?_
          exact j_iret C hr hk hA dX8_contact_148 (rfl) (⟨rfl, (by unfold ctQ; rw [if_neg (by simp [c10]), nI_clamp (by omega)]; simp only [nI_eq (show q < 2147483648 by omega) (show 0 < 2147483648 by decide), nI_eq (show q < 2147483648 by omega) (show 1 < 2147483648 by decide), nI_eq (show q < 2147483648 by omega) (show 2 < 2147483648 by decide), nI_eq (show q < 2147483648 by omega) (show 3 < 2147483648 by decide), nI_eq (show q < 2147483648 by omega) (show 4 < 2147483648 by decide), nI_eq (show q < 2147483648 by omega) (show 5 < 2147483648 by decide), nI_eq (show q < 2147483648 by omega) (show 6 < 2147483648 by decide)]; repeat (first | rw [if_neg (by omega)] | rw [if_pos (by omega)]))⟩)
      · refine j_iload_n (pc' := 31) C dX8_contact_30 rfl 2 rfl ?_
        refine j_nz_ne (pc' := 34) C 45 dX8_contact_31 (by decide) rfl (by omega) (fun c31 => ?_) (fun c31 => ?_)
        · refine j_iload_n (pc' := 46) C dX8_contact_45 rfl 2 rfl ?_
          refine j_iconst (v := (nI 1)) (pc' := 47) C dX8_contact_46 rfl (by decide +kernel) ?_
          refine j_nc_ne (pc' := 50) C 62 dX8_contact_47 (by decide) rfl (by omega) (by omega) (fun c47 => ?_) (fun c47 => ?_)
          · refine j_iload_n (pc' := 63) C dX8_contact_62 rfl 2 rfl ?_
            refine j_iconst (v := (nI 2)) (pc' := 64) C dX8_contact_63 rfl (by decide +kernel) ?_
            refine j_nc_ne (pc' := 67) C 79 dX8_contact_64 (by decide) rfl (by omega) (by omega) (fun c64 => ?_) (fun c64 => ?_)
            · refine j_aload_n (pc' := 80) C dX8_contact_79 rfl 0 rfl ?_
              refine j_get (v := .ref aT) (pc' := 83) C KX8 0 8 rfl (by decide) fl_X8_13 rfl rfl dX8_contact_80 rfl ?_
              refine j_bipush (v := (nI 30)) (pc' := 85) C dX8_contact_83 rfl (by decide +kernel) ?_
              refine j_iload_n (pc' := 86) C dX8_contact_85 rfl 1 rfl ?_
              refine j_iadd (v := (nI (30 + j))) (pc' := 87) C dX8_contact_86 rfl (nI_add 30 j) ?_
              refine j_nald (pc' := 88) C 1 rfl (by omega) (by decide) dX8_contact_87 rfl ?_
              exact j_iret C hr hk hA dX8_contact_88 (rfl) (⟨rfl, (by unfold ctQ; rw [if_neg (by simp [c10]), nI_clamp (by omega)]; simp only [nI_eq (show q < 2147483648 by omega) (show 0 < 2147483648 by decide), nI_eq (show q < 2147483648 by omega) (show 1 < 2147483648 by decide), nI_eq (show q < 2147483648 by omega) (show 2 < 2147483648 by decide), nI_eq (show q < 2147483648 by omega) (show 3 < 2147483648 by decide)]; repeat (first | rw [if_neg (by omega)] | rw [if_pos (by omega)]))⟩)
            · refine j_aload_n (pc' := 68) C dX8_contact_67 rfl 0 rfl ?_
              refine j_get (v := .ref aT) (pc' := 71) C KX8 0 8 rfl (by decide) fl_X8_13 rfl rfl dX8_contact_68 rfl ?_
              refine j_bipush (v := (nI 21)) (pc' := 73) C dX8_contact_71 rfl (by decide +kernel) ?_
              refine j_iload_n (pc' := 74) C dX8_contact_73 rfl 1 rfl ?_
              refine j_iadd (v := (nI (21 + j))) (pc' := 75) C dX8_contact_74 rfl (nI_add 21 j) ?_
              refine j_nald (pc' := 76) C 1 rfl (by omega) (by decide) dX8_contact_75 rfl ?_
              refine j_goto C 88 dX8_contact_76 (by decide) ?_
              exact j_iret C hr hk hA dX8_contact_88 (rfl) (⟨rfl, (by unfold ctQ; rw [if_neg (by simp [c10]), nI_clamp (by omega)]; simp only [nI_eq (show q < 2147483648 by omega) (show 0 < 2147483648 by decide), nI_eq (show q < 2147483648 by omega) (show 1 < 2147483648 by decide), nI_eq (show q < 2147483648 by omega) (show 2 < 2147483648 by decide), nI_eq (show q < 2147483648 by omega) (show 3 < 2147483648 by decide)]; repeat (first | rw [if_neg (by omega)] | rw [if_pos (by omega)]))⟩)
          · refine j_aload_n (pc' := 51) C dX8_contact_50 rfl 0 rfl ?_
            refine j_get (v := .ref aT) (pc' := 54) C KX8 0 8 rfl (by decide) fl_X8_13 rfl rfl dX8_contact_51 rfl ?_
            refine j_bipush (v := (nI 12)) (pc' := 56) C dX8_contact_54 rfl (by decide +kernel) ?_
            refine j_iload_n (pc' := 57) C dX8_contact_56 rfl 1 rfl ?_
            refine j_iadd (v := (nI (12 + j))) (pc' := 58) C dX8_contact_57 rfl (nI_add 12 j) ?_
            refine j_nald (pc' := 59) C 1 rfl (by omega) (by decide) dX8_contact_58 rfl ?_
            refine j_goto C 88 dX8_contact_59 (by decide) ?_
            exact j_iret C hr hk hA dX8_contact_88 (rfl) (⟨rfl, (by unfold ctQ; rw [if_neg (by simp [c10]), nI_clamp (by omega)]; simp only [nI_eq (show q < 2147483648 by omega) (show 0 < 2147483648 by decide), nI_eq (show q < 2147483648 by omega) (show 1 < 2147483648 by decide), nI_eq (show q < 2147483648 by omega) (show 2 < 2147483648 by decide), nI_eq (show q < 2147483648 by omega) (show 3 < 2147483648 by decide)]; repeat (first | rw [if_neg (by omega)] | rw [if_pos (by omega)]))⟩)
        · refine j_aload_n (pc' := 35) C dX8_contact_34 rfl 0 rfl ?_
          refine j_get (v := .ref aT) (pc' := 38) C KX8 0 8 rfl (by decide) fl_X8_13 rfl rfl dX8_contact_35 rfl ?_
          refine j_iconst (v := (nI 3)) (pc' := 39) C dX8_contact_38 rfl (by decide +kernel) ?_
          refine j_iload_n (pc' := 40) C dX8_contact_39 rfl 1 rfl ?_
          refine j_iadd (v := (nI (3 + j))) (pc' := 41) C dX8_contact_40 rfl (nI_add 3 j) ?_
          refine j_nald (pc' := 42) C 1 rfl (by omega) (by decide) dX8_contact_41 rfl ?_
          refine j_goto C 88 dX8_contact_42 (by decide) ?_
          exact j_iret C hr hk hA dX8_contact_88 (rfl) (⟨rfl, (by unfold ctQ; rw [if_neg (by simp [c10]), nI_clamp (by omega)]; simp only [nI_eq (show q < 2147483648 by omega) (show 0 < 2147483648 by decide), nI_eq (show q < 2147483648 by omega) (show 1 < 2147483648 by decide), nI_eq (show q < 2147483648 by omega) (show 2 < 2147483648 by decide), nI_eq (show q < 2147483648 by omega) (show 3 < 2147483648 by decide)]; repeat (first | rw [if_neg (by omega)] | rw [if_pos (by omega)]))⟩)
    · rw [in_R2 _ _ (by omega)] at c20
      refine j_iconst (v := (-1)) (pc' := 24) C dX8_contact_23 rfl (by decide +kernel) ?_
      exact j_iret C hr hk hA dX8_contact_24 (rfl) (⟨rfl, (by have h9 := inR_f c20; unfold ctQ; rw [if_neg (by simp [c10])]; repeat (first | rw [if_neg (by intro q9; rw [q9, nI_toInt (by decide)] at h9; omega)] | rfl))⟩)

set_option maxHeartbeats 4000000 in
set_option maxRecDepth 100000 in
theorem c_X8_notes {lch : Launch} {dG : va_G} {cyI cyZ cyO : ClassId} (a0 : Nat) (th : Int32) (aX : Nat) (ty : Int32) (sp : Int32) (tk : Int32) (pl : Int32) (va : Int32) (fa : Int32) (aT : Nat) (aD : Nat) (aS : Nat) (aU : Nat) (aK : Nat) (aI : Nat) (aL : Nat) (aE : Nat) (aF : Nat) (sm : Int32) (aP : Nat) (aW : Nat) (sn : Int32) (aB : Nat) (aM : Nat) (s : Nat → Nat) (u : Nat → Nat) (n : Nat) (hn : n ≤ 10) : Kv lch yX8_notes cX8_notes 2 (rmk 1) dG (cyI, cyZ, cyO) [.ref a0] [(a0, .inr (8, [.int th, .ref aX, .int ty, .int sp, .int tk, .int pl, .int va, .int fa, .ref aT, .ref aD, .ref aS, .ref aU, .int (nI n), .ref aK, .ref aI, .ref aL, .ref aE, .ref aF, .int sm, .ref aP, .ref aW, .int sn, .ref aB, .ref aM])), (aS, .inl (cyI, 30, .inl (nA s))), (aU, .inl (cyI, 300, .inl (nA u)))] (fun w1 => w1 = [(a0, .inr (8, [.int th, .ref aX, .int ty, .int sp, .int tk, .int pl, .int va, .int fa, .ref aT, .ref aD, .ref aS, .ref aU, .int (nI (nN n + 1)), .ref aK, .ref aI, .ref aL, .ref aE, .ref aF, .int sm, .ref aP, .ref aW, .int sn, .ref aB, .ref aM])), (aS, .inl (cyI, 30, .inl (nA s))), (aU, .inl (cyI, 300, .inl (nA (nU u s n))))]) := by
  refine Kv.of (own := RX8) rfl (by decide) (Nat.le_of_ble_eq_true rfl) (fun p0 e0 s0 m0 ar0 be0 me0 cd0 A0 C hr hk hnm hA => ?_)
  refine j_lsub [(0, .ref a0)] [0] rfl ?_
  refine j_aload_n (pc' := 1) C dX8_notes_0 rfl 0 rfl ?_
  refine j_get (v := .int (nI n)) (pc' := 4) C KX8 0 12 rfl (by decide) fl_X8_127 rfl rfl dX8_notes_1 rfl ?_
  refine j_bipush (v := (nI 10)) (pc' := 6) C dX8_notes_4 rfl (by decide +kernel) ?_
  refine j_nc_ne (pc' := 9) C 45 dX8_notes_6 (by decide) rfl (by omega) (by omega) (fun c6 => ?_) (fun c6 => ?_)
  · refine j_iconst (v := (nI 0)) (pc' := 46) C dX8_notes_45 rfl (by decide +kernel) ?_
    refine j_istore_n (pc' := 47) C [(1, .int (nI 0)), (0, .ref a0)] dX8_notes_46 rfl (by decide) rfl ?_
    refine j_lsub [(0, .ref a0), (1, .int (nI 0))] [1, 0] rfl ?_
    refine j_loop2 (fun (i : Nat) (y2 : Nat → Nat) => [(a0, .inr (8, [.int th, .ref aX, .int ty, .int sp, .int tk, .int pl, .int va, .int fa, .ref aT, .ref aD, .ref aS, .ref aU, .int (nI n), .ref aK, .ref aI, .ref aL, .ref aE, .ref aF, .int sm, .ref aP, .ref aW, .int sn, .ref aB, .ref aM])), (aS, .inl (cyI, 30, .inl (nA s))), (aU, .inl (cyI, 300, .inl (nA y2)))]) (fun (i : Nat) (y2 : Nat → Nat) => [(0, .ref a0), (1, .int (nI i))]) (fun (i : Nat) (y2 : Nat → Nat) => []) (fun (i : Nat) (y2 : Nat → Nat) => i ≤ 30 ∧ y2 = flN u s (30 * n) i) (fun (i : Nat) (y2 : Nat → Nat) => 30 - i) ?_ 0 u ?_
    · intro i y2 hI47 ih47
      obtain ⟨hi2, hy2⟩ := hI47
      refine j_iload_n (pc' := 48) C dX8_notes_47 rfl 1 rfl ?_
      refine j_bipush (v := (nI 30)) (pc' := 50) C dX8_notes_48 rfl (by decide +kernel) ?_
      refine j_nc_ge (pc' := 53) C 79 dX8_notes_50 (by decide) rfl (by omega) (by omega) (fun c50 => ?_) (fun c50 => ?_)
      · refine j_aload_n (pc' := 80) C dX8_notes_79 rfl 0 rfl ?_
        refine j_dup (pc' := 81) C dX8_notes_80 rfl rfl ?_
        refine j_get (v := .int (nI n)) (pc' := 84) C KX8 0 12 rfl (by decide) fl_X8_127 rfl rfl dX8_notes_81 rfl ?_
        refine j_iconst (v := (nI 1)) (pc' := 85) C dX8_notes_84 rfl (by decide +kernel) ?_
        refine j_iadd (v := (nI (n + 1))) (pc' := 86) C dX8_notes_85 rfl (nI_add n 1) ?_
        refine j_put (pc' := 89) C [(a0, .inr (8, [.int th, .ref aX, .int ty, .int sp, .int tk, .int pl, .int va, .int fa, .ref aT, .ref aD, .ref aS, .ref aU, .int (nI (n + 1)), .ref aK, .ref aI, .ref aL, .ref aE, .ref aF, .int sm, .ref aP, .ref aW, .int sn, .ref aB, .ref aM])), (aS, .inl (cyI, 30, .inl (nA s))), (aU, .inl (cyI, 300, .inl (nA y2)))] KX8 0 12 rfl (by decide) fl_X8_127 rfl rfl rfl rfl (Nat.le_of_ble_eq_true rfl) dX8_notes_86 rfl rfl ?_
        exact j_vret C hr hk hA dX8_notes_89 (by unfold nU nN; rw [if_neg c6, if_neg c6, hy2, show i = 30 by omega])
      · refine j_aload_n (pc' := 54) C dX8_notes_53 rfl 0 rfl ?_
        refine j_get (v := .ref aU) (pc' := 57) C KX8 0 11 rfl (by decide) fl_X8_22 rfl rfl dX8_notes_54 rfl ?_
        refine j_bipush (v := (nI 30)) (pc' := 59) C dX8_notes_57 rfl (by decide +kernel) ?_
        refine j_aload_n (pc' := 60) C dX8_notes_59 rfl 0 rfl ?_
        refine j_get (v := .int (nI n)) (pc' := 63) C KX8 0 12 rfl (by decide) fl_X8_127 rfl rfl dX8_notes_60 rfl ?_
        refine j_imul (v := (nI (30 * n))) (pc' := 64) C dX8_notes_63 rfl (pk_mul 30 n) ?_
        refine j_iload_n (pc' := 65) C dX8_notes_64 rfl 1 rfl ?_
        refine j_iadd (v := (nI ((30 * n) + i))) (pc' := 66) C dX8_notes_65 rfl (nI_add (30 * n) i) ?_
        refine j_aload_n (pc' := 67) C dX8_notes_66 rfl 0 rfl ?_
        refine j_get (v := .ref aS) (pc' := 70) C KX8 0 10 rfl (by decide) fl_X8_19 rfl rfl dX8_notes_67 rfl ?_
        refine j_iload_n (pc' := 71) C dX8_notes_70 rfl 1 rfl ?_
        refine j_nald (pc' := 72) C 1 rfl (by omega) (by decide) dX8_notes_71 rfl ?_
        refine j_nast (pc' := 73) C [(a0, .inr (8, [.int th, .ref aX, .int ty, .int sp, .int tk, .int pl, .int va, .int fa, .ref aT, .ref aD, .ref aS, .ref aU, .int (nI n), .ref aK, .ref aI, .ref aL, .ref aE, .ref aF, .int sm, .ref aP, .ref aW, .int sn, .ref aB, .ref aM])), (aS, .inl (cyI, 30, .inl (nA s))), (aU, .inl (cyI, 300, .inl (nA (uN y2 ((30 * n) + i) (s i)))))] 2 rfl (by omega) (by decide) dX8_notes_72 rfl rfl ?_
        refine j_iinc (v := (nI (i + 1))) (pc' := 76) C [(1, .int (nI (i + 1))), (0, .ref a0)] dX8_notes_73 rfl 1 rfl (inc_n i 1) (by decide) rfl ?_
        refine j_goto C 47 dX8_notes_76 (by decide) ?_
        refine j_lsub [(0, .ref a0), (1, .int (nI (i + 1)))] [1, 0] rfl ?_
        exact ih47 (i + 1) (uN y2 ((30 * n) + i) (s i)) (⟨by omega, by rw [hy2, ← flN_s]⟩) (by omega)
    · exact ⟨Nat.zero_le _, (flN_0 _ _ _).symm⟩
  · refine j_iconst (v := (nI 0)) (pc' := 10) C dX8_notes_9 rfl (by decide +kernel) ?_
    refine j_istore_n (pc' := 11) C [(1, .int (nI 0)), (0, .ref a0)] dX8_notes_10 rfl (by decide) rfl ?_
    refine j_lsub [(0, .ref a0), (1, .int (nI 0))] [1, 0] rfl ?_
    refine j_loop2 (fun (i0 : Nat) (y : Nat → Nat) => [(a0, .inr (8, [.int th, .ref aX, .int ty, .int sp, .int tk, .int pl, .int va, .int fa, .ref aT, .ref aD, .ref aS, .ref aU, .int (nI n), .ref aK, .ref aI, .ref aL, .ref aE, .ref aF, .int sm, .ref aP, .ref aW, .int sn, .ref aB, .ref aM])), (aS, .inl (cyI, 30, .inl (nA s))), (aU, .inl (cyI, 300, .inl (nA y)))]) (fun (i0 : Nat) (y : Nat → Nat) => [(0, .ref a0), (1, .int (nI i0))]) (fun (i0 : Nat) (y : Nat → Nat) => []) (fun (i0 : Nat) (y : Nat → Nat) => i0 ≤ 270 ∧ y = flN u (fun k => u (k + 30)) 0 i0) (fun (i0 : Nat) (y : Nat → Nat) => 270 - i0) ?_ 0 u ?_
    · intro i0 y hI11 ih11
      obtain ⟨hi, hy⟩ := hI11
      refine j_iload_n (pc' := 12) C dX8_notes_11 rfl 1 rfl ?_
      refine j_sipush (v := (nI 270)) (pc' := 15) C dX8_notes_12 rfl (by decide +kernel) ?_
      refine j_nc_ge (pc' := 18) C 39 dX8_notes_15 (by decide) rfl (by omega) (by omega) (fun c15 => ?_) (fun c15 => ?_)
      · refine j_aload_n (pc' := 40) C dX8_notes_39 rfl 0 rfl ?_
        refine j_bipush (v := (nI 9)) (pc' := 42) C dX8_notes_40 rfl (by decide +kernel) ?_
        refine j_put (pc' := 45) C [(a0, .inr (8, [.int th, .ref aX, .int ty, .int sp, .int tk, .int pl, .int va, .int fa, .ref aT, .ref aD, .ref aS, .ref aU, .int (nI 9), .ref aK, .ref aI, .ref aL, .ref aE, .ref aF, .int sm, .ref aP, .ref aW, .int sn, .ref aB, .ref aM])), (aS, .inl (cyI, 30, .inl (nA s))), (aU, .inl (cyI, 300, .inl (nA y)))] KX8 0 12 rfl (by decide) fl_X8_127 rfl rfl rfl rfl (Nat.le_of_ble_eq_true rfl) dX8_notes_42 rfl rfl ?_
        refine j_iconst (v := (nI 0)) (pc' := 46) C dX8_notes_45 rfl (by decide +kernel) ?_
        refine j_istore_n (pc' := 47) C [(1, .int (nI 0)), (0, .ref a0)] dX8_notes_46 rfl (by decide) rfl ?_
        refine j_lsub [(0, .ref a0), (1, .int (nI 0))] [1, 0] rfl ?_
        refine j_loop2 (fun (i : Nat) (y2 : Nat → Nat) => [(a0, .inr (8, [.int th, .ref aX, .int ty, .int sp, .int tk, .int pl, .int va, .int fa, .ref aT, .ref aD, .ref aS, .ref aU, .int (nI 9), .ref aK, .ref aI, .ref aL, .ref aE, .ref aF, .int sm, .ref aP, .ref aW, .int sn, .ref aB, .ref aM])), (aS, .inl (cyI, 30, .inl (nA s))), (aU, .inl (cyI, 300, .inl (nA y2)))]) (fun (i : Nat) (y2 : Nat → Nat) => [(0, .ref a0), (1, .int (nI i))]) (fun (i : Nat) (y2 : Nat → Nat) => []) (fun (i : Nat) (y2 : Nat → Nat) => i ≤ 30 ∧ y2 = flN y s (30 * 9) i) (fun (i : Nat) (y2 : Nat → Nat) => 30 - i) ?_ 0 y ?_
        · intro i y2 hI47 ih47
          obtain ⟨hi2, hy2⟩ := hI47
          refine j_iload_n (pc' := 48) C dX8_notes_47 rfl 1 rfl ?_
          refine j_bipush (v := (nI 30)) (pc' := 50) C dX8_notes_48 rfl (by decide +kernel) ?_
          refine j_nc_ge (pc' := 53) C 79 dX8_notes_50 (by decide) rfl (by omega) (by omega) (fun c50 => ?_) (fun c50 => ?_)
          · refine j_aload_n (pc' := 80) C dX8_notes_79 rfl 0 rfl ?_
            refine j_dup (pc' := 81) C dX8_notes_80 rfl rfl ?_
            refine j_get (v := .int (nI 9)) (pc' := 84) C KX8 0 12 rfl (by decide) fl_X8_127 rfl rfl dX8_notes_81 rfl ?_
            refine j_iconst (v := (nI 1)) (pc' := 85) C dX8_notes_84 rfl (by decide +kernel) ?_
            refine j_iadd (v := (nI 10)) (pc' := 86) C dX8_notes_85 rfl (by decide +kernel) ?_
            refine j_put (pc' := 89) C [(a0, .inr (8, [.int th, .ref aX, .int ty, .int sp, .int tk, .int pl, .int va, .int fa, .ref aT, .ref aD, .ref aS, .ref aU, .int (nI 10), .ref aK, .ref aI, .ref aL, .ref aE, .ref aF, .int sm, .ref aP, .ref aW, .int sn, .ref aB, .ref aM])), (aS, .inl (cyI, 30, .inl (nA s))), (aU, .inl (cyI, 300, .inl (nA y2)))] KX8 0 12 rfl (by decide) fl_X8_127 rfl rfl rfl rfl (Nat.le_of_ble_eq_true rfl) dX8_notes_86 rfl rfl ?_
            exact j_vret C hr hk hA dX8_notes_89 (by unfold nU nN; rw [if_pos c6, if_pos c6, hy2, hy, show i = 30 by omega, show i0 = 270 by omega])
          · refine j_aload_n (pc' := 54) C dX8_notes_53 rfl 0 rfl ?_
            refine j_get (v := .ref aU) (pc' := 57) C KX8 0 11 rfl (by decide) fl_X8_22 rfl rfl dX8_notes_54 rfl ?_
            refine j_bipush (v := (nI 30)) (pc' := 59) C dX8_notes_57 rfl (by decide +kernel) ?_
            refine j_aload_n (pc' := 60) C dX8_notes_59 rfl 0 rfl ?_
            refine j_get (v := .int (nI 9)) (pc' := 63) C KX8 0 12 rfl (by decide) fl_X8_127 rfl rfl dX8_notes_60 rfl ?_
            refine j_imul (v := (nI (30 * 9))) (pc' := 64) C dX8_notes_63 rfl (pk_mul 30 9) ?_
            refine j_iload_n (pc' := 65) C dX8_notes_64 rfl 1 rfl ?_
            refine j_iadd (v := (nI ((30 * 9) + i))) (pc' := 66) C dX8_notes_65 rfl (nI_add (30 * 9) i) ?_
            refine j_aload_n (pc' := 67) C dX8_notes_66 rfl 0 rfl ?_
            refine j_get (v := .ref aS) (pc' := 70) C KX8 0 10 rfl (by decide) fl_X8_19 rfl rfl dX8_notes_67 rfl ?_
            refine j_iload_n (pc' := 71) C dX8_notes_70 rfl 1 rfl ?_
            refine j_nald (pc' := 72) C 1 rfl (by omega) (by decide) dX8_notes_71 rfl ?_
            refine j_nast (pc' := 73) C [(a0, .inr (8, [.int th, .ref aX, .int ty, .int sp, .int tk, .int pl, .int va, .int fa, .ref aT, .ref aD, .ref aS, .ref aU, .int (nI 9), .ref aK, .ref aI, .ref aL, .ref aE, .ref aF, .int sm, .ref aP, .ref aW, .int sn, .ref aB, .ref aM])), (aS, .inl (cyI, 30, .inl (nA s))), (aU, .inl (cyI, 300, .inl (nA (uN y2 ((30 * 9) + i) (s i)))))] 2 rfl (by omega) (by decide) dX8_notes_72 rfl rfl ?_
            refine j_iinc (v := (nI (i + 1))) (pc' := 76) C [(1, .int (nI (i + 1))), (0, .ref a0)] dX8_notes_73 rfl 1 rfl (inc_n i 1) (by decide) rfl ?_
            refine j_goto C 47 dX8_notes_76 (by decide) ?_
            refine j_lsub [(0, .ref a0), (1, .int (nI (i + 1)))] [1, 0] rfl ?_
            exact ih47 (i + 1) (uN y2 ((30 * 9) + i) (s i)) (⟨by omega, by rw [hy2, ← flN_s]⟩) (by omega)
        · exact ⟨Nat.zero_le _, (flN_0 _ _ _).symm⟩
      · refine j_aload_n (pc' := 19) C dX8_notes_18 rfl 0 rfl ?_
        refine j_get (v := .ref aU) (pc' := 22) C KX8 0 11 rfl (by decide) fl_X8_22 rfl rfl dX8_notes_19 rfl ?_
        refine j_iload_n (pc' := 23) C dX8_notes_22 rfl 1 rfl ?_
        refine j_aload_n (pc' := 24) C dX8_notes_23 rfl 0 rfl ?_
        refine j_get (v := .ref aU) (pc' := 27) C KX8 0 11 rfl (by decide) fl_X8_22 rfl rfl dX8_notes_24 rfl ?_
        refine j_iload_n (pc' := 28) C dX8_notes_27 rfl 1 rfl ?_
        refine j_bipush (v := (nI 30)) (pc' := 30) C dX8_notes_28 rfl (by decide +kernel) ?_
        refine j_iadd (v := (nI (i0 + 30))) (pc' := 31) C dX8_notes_30 rfl (nI_add i0 30) ?_
        refine j_nald (pc' := 32) C 2 rfl (by omega) (by decide) dX8_notes_31 rfl ?_
        refine j_nast (pc' := 33) C [(a0, .inr (8, [.int th, .ref aX, .int ty, .int sp, .int tk, .int pl, .int va, .int fa, .ref aT, .ref aD, .ref aS, .ref aU, .int (nI n), .ref aK, .ref aI, .ref aL, .ref aE, .ref aF, .int sm, .ref aP, .ref aW, .int sn, .ref aB, .ref aM])), (aS, .inl (cyI, 30, .inl (nA s))), (aU, .inl (cyI, 300, .inl (nA (uN y i0 (y (i0 + 30))))))] 2 rfl (by omega) (by decide) dX8_notes_32 rfl rfl ?_
        refine j_iinc (v := (nI (i0 + 1))) (pc' := 36) C [(1, .int (nI (i0 + 1))), (0, .ref a0)] dX8_notes_33 rfl 1 rfl (inc_n i0 1) (by decide) rfl ?_
        refine j_goto C 11 dX8_notes_36 (by decide) ?_
        refine j_lsub [(0, .ref a0), (1, .int (nI (i0 + 1)))] [1, 0] rfl ?_
        exact ih11 (i0 + 1) (uN y i0 (y (i0 + 30))) (⟨by omega, by rw [hy, flN_o (by omega), ← flN_s]; simp only [Nat.zero_add]⟩) (by omega)
    · exact ⟨Nat.zero_le _, (flN_0 _ _ _).symm⟩

set_option maxHeartbeats 4000000 in
set_option maxRecDepth 100000 in
theorem c_X8_wishes {lch : Launch} {dG : va_G} {cyI cyZ cyO : ClassId} (a0 : Nat) (th : Int32) (aX : Nat) (ty : Int32) (sp : Int32) (tk : Int32) (pl : Int32) (va : Int32) (fa : Int32) (aT : Nat) (aD : Nat) (aS : Nat) (aU : Nat) (aK : Nat) (aI : Nat) (aL : Nat) (aE : Nat) (aF : Nat) (sm : Int32) (aP : Nat) (aW : Nat) (sn : Int32) (aB : Nat) (aM : Nat) (t : Nat → Nat) (s : Nat → Nat) (u : Nat → Nat) (n : Nat) (l : Int32) (v : Int32) (hT : WT t) (hn : n ≤ 10) : Ki lch yX8_wishes cX8_wishes 4 .int (rmk 3) dG (cyI, cyZ, cyO) [.ref a0, .int l, .int v] [(a0, .inr (8, [.int th, .ref aX, .int ty, .int sp, .int tk, .int pl, .int va, .int fa, .ref aT, .ref aD, .ref aS, .ref aU, .int (nI n), .ref aK, .ref aI, .ref aL, .ref aE, .ref aF, .int sm, .ref aP, .ref aW, .int sn, .ref aB, .ref aM])), (aT, .inl (cyI, 42, .inl (nA t))), (aS, .inl (cyI, 30, .inl (nA s))), (aU, .inl (cyI, 300, .inl (nA u)))] (fun r w1 => ∃ (s1 : Nat → Nat), ∃ (u1 : Nat → Nat), ∃ (n1 : Nat), w1 = [(a0, .inr (8, [.int (nI 0), .ref aX, .int ty, .int sp, .int tk, .int pl, .int va, .int fa, .ref aT, .ref aD, .ref aS, .ref aU, .int (nI n1), .ref aK, .ref aI, .ref aL, .ref aE, .ref aF, .int sm, .ref aP, .ref aW, .int sn, .ref aB, .ref aM])), (aT, .inl (cyI, 42, .inl (nA t))), (aS, .inl (cyI, 30, .inl (nA s1))), (aU, .inl (cyI, 300, .inl (nA u1)))] ∧ (r, s1, u1, n1) = wiQ t s u n l v) := by
  have h1 := hT.n
  refine Ki.of (own := RX8) rfl (by decide) (Nat.le_of_ble_eq_true rfl) (fun p0 e0 s0 m0 ar0 be0 me0 cd0 A0 C hr hk hnm hA => ?_)
  refine j_lsub [(0, .ref a0), (1, .int l), (2, .int v)] [0, 1, 2] rfl ?_
  refine j_aload_n (pc' := 1) C dX8_wishes_0 rfl 0 rfl ?_
  refine j_iconst (v := (nI 0)) (pc' := 2) C dX8_wishes_1 rfl (by decide +kernel) ?_
  refine j_put (pc' := 5) C [(a0, .inr (8, [.int (nI 0), .ref aX, .int ty, .int sp, .int tk, .int pl, .int va, .int fa, .ref aT, .ref aD, .ref aS, .ref aU, .int (nI n), .ref aK, .ref aI, .ref aL, .ref aE, .ref aF, .int sm, .ref aP, .ref aW, .int sn, .ref aB, .ref aM])), (aT, .inl (cyI, 42, .inl (nA t))), (aS, .inl (cyI, 30, .inl (nA s))), (aU, .inl (cyI, 300, .inl (nA u)))] KX8 0 0 rfl (by decide) fl_X8_59 rfl rfl rfl rfl (Nat.le_of_ble_eq_true rfl) dX8_wishes_2 rfl rfl ?_
  refine j_aload_n (pc' := 6) C dX8_wishes_5 rfl 0 rfl ?_
  refine j_iload_n (pc' := 7) C dX8_wishes_6 rfl 1 rfl ?_
  refine j_cVi (As := [.int l]) (wr := [(aS, .inl (cyI, 30, .inl (nA s))), (aU, .inl (cyI, 300, .inl (nA u)))]) (pc' := 10) C (c_X8_isLoad (a0 := a0) (th := (nI 0)) (aX := aX) (ty := ty) (sp := sp) (tk := tk) (pl := pl) (va := va) (fa := fa) (aT := aT) (aD := aD) (aS := aS) (aU := aU) (um := (nI n)) (aK := aK) (aI := aI) (aL := aL) (aE := aE) (aF := aF) (sm := sm) (aP := aP) (aW := aW) (sn := sn) (aB := aB) (aM := aM) (t := t) (v := l) (hT := by first | assumption | omega)) Y_X8_isLoad (ml_X8_150) [0, 1] [2, 3] rfl rfl rfl rfl (by decide) rfl rfl rfl dX8_wishes_7 rfl rfl rfl (Nat.le_of_ble_eq_true rfl) ⟨Nat.le_of_ble_eq_true rfl, Nat.le_of_ble_eq_true rfl⟩ ⟨Nat.le_of_ble_eq_true rfl, Nat.le_of_ble_eq_true rfl⟩ ⟨rfl, rfl⟩ (fun r1 w1 hQ => ?_)
  obtain ⟨rfl, rfl⟩ := hQ
  refine j_perm [(a0, .inr (8, [.int (nI 0), .ref aX, .int ty, .int sp, .int tk, .int pl, .int va, .int fa, .ref aT, .ref aD, .ref aS, .ref aU, .int (nI n), .ref aK, .ref aI, .ref aL, .ref aE, .ref aF, .int sm, .ref aP, .ref aW, .int sn, .ref aB, .ref aM])), (aT, .inl (cyI, 42, .inl (nA t))), (aS, .inl (cyI, 30, .inl (nA s))), (aU, .inl (cyI, 300, .inl (nA u)))] [2, 3, 0, 1] rfl rfl (by decide) ?_
  refine j_b_eq (pc' := 13) C 23 dX8_wishes_10 (by decide) rfl (fun c10 => ?_) (fun c10 => ?_)
  · refine j_iconst (v := (-1)) (pc' := 24) C dX8_wishes_23 rfl (by decide +kernel) ?_
    exact j_iret C hr hk hA dX8_wishes_24 (rfl) (⟨s, u, n, rfl, by unfold wiQ; rw [if_pos (by simp_all)]⟩)
  · obtain ⟨j, hj, rfl⟩ := inR_t c10 (by omega)
    refine j_iload_n (pc' := 14) C dX8_wishes_13 rfl 2 rfl ?_
    refine j_iconst (v := (nI 0)) (pc' := 15) C dX8_wishes_14 rfl (by decide +kernel) ?_
    refine j_ldc (v := 65535) (pc' := 17) C dX8_wishes_15 rfl co_X8_156 ?_
    refine j_top (nI 65535) (by decide +kernel) ?_
    refine j_cSi (As := [.int v, .int (nI 0), .int (nI 65535)]) (wr := [(a0, .inr (8, [.int (nI 0), .ref aX, .int ty, .int sp, .int tk, .int pl, .int va, .int fa, .ref aT, .ref aD, .ref aS, .ref aU, .int (nI n), .ref aK, .ref aI, .ref aL, .ref aE, .ref aF, .int sm, .ref aP, .ref aW, .int sn, .ref aB, .ref aM])), (aT, .inl (cyI, 42, .inl (nA t))), (aS, .inl (cyI, 30, .inl (nA s))), (aU, .inl (cyI, 300, .inl (nA u)))]) (pc' := 20) C (c_X8_in (x := v) (a := (nI 0)) (b := (nI 65535)) ) Y_X8_in (ml_X8_63) [] [0, 1, 2, 3] rfl rfl rfl rfl (by decide) dX8_wishes_17 rfl rfl rfl (Nat.le_of_ble_eq_true rfl) ⟨Nat.le_of_ble_eq_true rfl, Nat.le_of_ble_eq_true rfl⟩ ⟨Nat.le_of_ble_eq_true rfl, Nat.le_of_ble_eq_true rfl⟩ ⟨rfl, rfl⟩ (fun r2 w1 hQ => ?_)
    obtain ⟨rfl, rfl⟩ := hQ
    refine j_perm [(a0, .inr (8, [.int (nI 0), .ref aX, .int ty, .int sp, .int tk, .int pl, .int va, .int fa, .ref aT, .ref aD, .ref aS, .ref aU, .int (nI n), .ref aK, .ref aI, .ref aL, .ref aE, .ref aF, .int sm, .ref aP, .ref aW, .int sn, .ref aB, .ref aM])), (aT, .inl (cyI, 42, .inl (nA t))), (aS, .inl (cyI, 30, .inl (nA s))), (aU, .inl (cyI, 300, .inl (nA u)))] [0, 1, 2, 3] rfl rfl (by decide) ?_
    refine j_b_ne (pc' := 23) C 25 dX8_wishes_20 (by decide) rfl (fun c20 => ?_) (fun c20 => ?_)
    · rw [in_R2 _ _ (by omega)] at c20
      obtain ⟨q, hq, rfl⟩ := inR_t c20 (by omega)
      refine j_aload_n (pc' := 26) C dX8_wishes_25 rfl 0 rfl ?_
      refine j_cVv (As := []) (wr := [(aT, .inl (cyI, 42, .inl (nA t)))]) (pc' := 29) C (c_X8_notes (a0 := a0) (th := (nI 0)) (aX := aX) (ty := ty) (sp := sp) (tk := tk) (pl := pl) (va := va) (fa := fa) (aT := aT) (aD := aD) (aS := aS) (aU := aU) (aK := aK) (aI := aI) (aL := aL) (aE := aE) (aF := aF) (sm := sm) (aP := aP) (aW := aW) (sn := sn) (aB := aB) (aM := aM) (s := s) (u := u) (n := n) (hn := by first | assumption | omega)) Y_X8_notes (ml_X8_157) [0, 2, 3] [1] rfl rfl rfl rfl (by decide) rfl rfl rfl dX8_wishes_26 rfl rfl rfl (Nat.le_of_ble_eq_true rfl) ⟨Nat.le_of_ble_eq_true rfl, Nat.le_of_ble_eq_true rfl⟩ ⟨Nat.le_of_ble_eq_true rfl, Nat.le_of_ble_eq_true rfl⟩ ⟨rfl, rfl⟩ (fun w1 hQ => ?_)
      obtain rfl := hQ
      refine j_perm [(a0, .inr (8, [.int (nI 0), .ref aX, .int ty, .int sp, .int tk, .int pl, .int va, .int fa, .ref aT, .ref aD, .ref aS, .ref aU, .int (nI (nN n + 1)), .ref aK, .ref aI, .ref aL, .ref aE, .ref aF, .int sm, .ref aP, .ref aW, .int sn, .ref aB, .ref aM])), (aT, .inl (cyI, 42, .inl (nA t))), (aS, .inl (cyI, 30, .inl (nA s))), (aU, .inl (cyI, 300, .inl (nA (nU u s n))))] [1, 0, 2, 3] rfl rfl (by decide) ?_
      refine j_aload_n (pc' := 30) C dX8_wishes_29 rfl 0 rfl ?_
      refine j_get (v := .ref aS) (pc' := 33) C KX8 0 10 rfl (by decide) fl_X8_19 rfl rfl dX8_wishes_30 rfl ?_
      refine j_iconst (v := (nI 0)) (pc' := 34) C dX8_wishes_33 rfl (by decide +kernel) ?_
      refine j_iload_n (pc' := 35) C dX8_wishes_34 rfl 1 rfl ?_
      refine j_iadd (v := (nI (0 + j))) (pc' := 36) C dX8_wishes_35 rfl (nI_add 0 j) ?_
      refine j_nald (pc' := 37) C 2 rfl (by omega) (by decide) dX8_wishes_36 rfl ?_
      refine j_istore_n (pc' := 38) C [(3, .int (nI (s (0 + j)))), (0, .ref a0), (1, .int (nI j)), (2, .int (nI q))] dX8_wishes_37 rfl (by decide) rfl ?_
      refine j_aload_n (pc' := 39) C dX8_wishes_38 rfl 1 rfl ?_
      refine j_get (v := .ref aS) (pc' := 42) C KX8 0 10 rfl (by decide) fl_X8_19 rfl rfl dX8_wishes_39 rfl ?_
      refine j_iconst (v := (nI 0)) (pc' := 43) C dX8_wishes_42 rfl (by decide +kernel) ?_
      refine j_iload_n (pc' := 44) C dX8_wishes_43 rfl 2 rfl ?_
      refine j_iadd (v := (nI (0 + j))) (pc' := 45) C dX8_wishes_44 rfl (nI_add 0 j) ?_
      refine j_iload_n (pc' := 46) C dX8_wishes_45 rfl 3 rfl ?_
      refine j_nast (pc' := 47) C [(a0, .inr (8, [.int (nI 0), .ref aX, .int ty, .int sp, .int tk, .int pl, .int va, .int fa, .ref aT, .ref aD, .ref aS, .ref aU, .int (nI (nN n + 1)), .ref aK, .ref aI, .ref aL, .ref aE, .ref aF, .int sm, .ref aP, .ref aW, .int sn, .ref aB, .ref aM])), (aT, .inl (cyI, 42, .inl (nA t))), (aS, .inl (cyI, 30, .inl (nA (uN s (0 + j) q)))), (aU, .inl (cyI, 300, .inl (nA (nU u s n))))] 2 rfl (by omega) (by decide) dX8_wishes_46 rfl rfl ?_
      refine j_iload_n (pc' := 48) C dX8_wishes_47 rfl 0 rfl ?_
      exact j_iret C hr hk hA dX8_wishes_48 (rfl) (⟨_, _, _, rfl, by unfold wiQ; rw [if_neg (by simp_all), nI_clamp (by omega), nI_clamp (by omega)]; simp only [Nat.zero_add]⟩)
    · rw [in_R2 _ _ (by omega)] at c20
      refine j_iconst (v := (-1)) (pc' := 24) C dX8_wishes_23 rfl (by decide +kernel) ?_
      exact j_iret C hr hk hA dX8_wishes_24 (rfl) (⟨s, u, n, rfl, by unfold wiQ; rw [if_pos (by simp_all)]⟩)

set_option maxHeartbeats 4000000 in
set_option maxRecDepth 100000 in
theorem c_X8_cures {lch : Launch} {dG : va_G} {cyI cyZ cyO : ClassId} (a0 : Nat) (th : Int32) (aX : Nat) (ty : Int32) (sp : Int32) (tk : Int32) (pl : Int32) (va : Int32) (fa : Int32) (aT : Nat) (aD : Nat) (aS : Nat) (aU : Nat) (aK : Nat) (aI : Nat) (aL : Nat) (aE : Nat) (aF : Nat) (sm : Int32) (aP : Nat) (aW : Nat) (sn : Int32) (aB : Nat) (aM : Nat) (t : Nat → Nat) (s : Nat → Nat) (u : Nat → Nat) (n : Nat) (cc : Int32) (kd : Int32) (b : Int32) (hT : WT t) (hn : n ≤ 10) (hS : WS s) : Ki lch yX8_cures cX8_cures 5 .int (rmk 3) dG (cyI, cyZ, cyO) [.ref a0, .int cc, .int kd, .int b] [(a0, .inr (8, [.int th, .ref aX, .int ty, .int sp, .int tk, .int pl, .int va, .int fa, .ref aT, .ref aD, .ref aS, .ref aU, .int (nI n), .ref aK, .ref aI, .ref aL, .ref aE, .ref aF, .int sm, .ref aP, .ref aW, .int sn, .ref aB, .ref aM])), (aT, .inl (cyI, 42, .inl (nA t))), (aS, .inl (cyI, 30, .inl (nA s))), (aU, .inl (cyI, 300, .inl (nA u)))] (fun r w1 => ∃ (s1 : Nat → Nat), ∃ (u1 : Nat → Nat), ∃ (n1 : Nat), w1 = [(a0, .inr (8, [.int (nI 0), .ref aX, .int ty, .int sp, .int tk, .int pl, .int va, .int fa, .ref aT, .ref aD, .ref aS, .ref aU, .int (nI n1), .ref aK, .ref aI, .ref aL, .ref aE, .ref aF, .int sm, .ref aP, .ref aW, .int sn, .ref aB, .ref aM])), (aT, .inl (cyI, 42, .inl (nA t))), (aS, .inl (cyI, 30, .inl (nA s1))), (aU, .inl (cyI, 300, .inl (nA u1)))] ∧ (r, s1, u1, n1) = cuQ t s u n cc kd b) := by
  have h1 := hT.n
  refine Ki.of (own := RX8) rfl (by decide) (Nat.le_of_ble_eq_true rfl) (fun p0 e0 s0 m0 ar0 be0 me0 cd0 A0 C hr hk hnm hA => ?_)
  refine j_lsub [(0, .ref a0), (1, .int cc), (2, .int kd), (3, .int b)] [0, 1, 2, 3] rfl ?_
  refine j_aload_n (pc' := 1) C dX8_cures_0 rfl 0 rfl ?_
  refine j_iconst (v := (nI 0)) (pc' := 2) C dX8_cures_1 rfl (by decide +kernel) ?_
  refine j_put (pc' := 5) C [(a0, .inr (8, [.int (nI 0), .ref aX, .int ty, .int sp, .int tk, .int pl, .int va, .int fa, .ref aT, .ref aD, .ref aS, .ref aU, .int (nI n), .ref aK, .ref aI, .ref aL, .ref aE, .ref aF, .int sm, .ref aP, .ref aW, .int sn, .ref aB, .ref aM])), (aT, .inl (cyI, 42, .inl (nA t))), (aS, .inl (cyI, 30, .inl (nA s))), (aU, .inl (cyI, 300, .inl (nA u)))] KX8 0 0 rfl (by decide) fl_X8_59 rfl rfl rfl rfl (Nat.le_of_ble_eq_true rfl) dX8_cures_2 rfl rfl ?_
  refine j_aload_n (pc' := 6) C dX8_cures_5 rfl 0 rfl ?_
  refine j_iload_n (pc' := 7) C dX8_cures_6 rfl 1 rfl ?_
  refine j_cVi (As := [.int cc]) (wr := [(aS, .inl (cyI, 30, .inl (nA s))), (aU, .inl (cyI, 300, .inl (nA u)))]) (pc' := 10) C (c_X8_isContact (a0 := a0) (th := (nI 0)) (aX := aX) (ty := ty) (sp := sp) (tk := tk) (pl := pl) (va := va) (fa := fa) (aT := aT) (aD := aD) (aS := aS) (aU := aU) (um := (nI n)) (aK := aK) (aI := aI) (aL := aL) (aE := aE) (aF := aF) (sm := sm) (aP := aP) (aW := aW) (sn := sn) (aB := aB) (aM := aM) (t := t) (v := cc) (hT := by first | assumption | omega)) Y_X8_isContact (ml_X8_147) [0, 1] [2, 3] rfl rfl rfl rfl (by decide) rfl rfl rfl dX8_cures_7 rfl rfl rfl (Nat.le_of_ble_eq_true rfl) ⟨Nat.le_of_ble_eq_true rfl, Nat.le_of_ble_eq_true rfl⟩ ⟨Nat.le_of_ble_eq_true rfl, Nat.le_of_ble_eq_true rfl⟩ ⟨rfl, rfl⟩ (fun r1 w1 hQ => ?_)
  obtain ⟨rfl, rfl⟩ := hQ
  refine j_perm [(a0, .inr (8, [.int (nI 0), .ref aX, .int ty, .int sp, .int tk, .int pl, .int va, .int fa, .ref aT, .ref aD, .ref aS, .ref aU, .int (nI n), .ref aK, .ref aI, .ref aL, .ref aE, .ref aF, .int sm, .ref aP, .ref aW, .int sn, .ref aB, .ref aM])), (aT, .inl (cyI, 42, .inl (nA t))), (aS, .inl (cyI, 30, .inl (nA s))), (aU, .inl (cyI, 300, .inl (nA u)))] [2, 3, 0, 1] rfl rfl (by decide) ?_
  refine j_b_eq (pc' := 13) C 40 dX8_cures_10 (by decide) rfl (fun c10 => ?_) (fun c10 => ?_)
  · refine j_iconst (v := (-1)) (pc' := 41) C dX8_cures_40 rfl (by decide +kernel) ?_
    exact j_iret C hr hk hA dX8_cures_41 (rfl) (⟨s, u, n, rfl, by unfold cuQ; rw [if_pos (by simp_all)]⟩)
  · obtain ⟨j, hj, rfl⟩ := inR_t c10 (by omega)
    have h3 := hS.c (c := j) (by omega)
    refine j_iload_n (pc' := 14) C dX8_cures_13 rfl 2 rfl ?_
    refine j_iconst (v := (nI 0)) (pc' := 15) C dX8_cures_14 rfl (by decide +kernel) ?_
    refine j_iconst (v := (nI 4)) (pc' := 16) C dX8_cures_15 rfl (by decide +kernel) ?_
    refine j_cSi (As := [.int kd, .int (nI 0), .int (nI 4)]) (wr := [(a0, .inr (8, [.int (nI 0), .ref aX, .int ty, .int sp, .int tk, .int pl, .int va, .int fa, .ref aT, .ref aD, .ref aS, .ref aU, .int (nI n), .ref aK, .ref aI, .ref aL, .ref aE, .ref aF, .int sm, .ref aP, .ref aW, .int sn, .ref aB, .ref aM])), (aT, .inl (cyI, 42, .inl (nA t))), (aS, .inl (cyI, 30, .inl (nA s))), (aU, .inl (cyI, 300, .inl (nA u)))]) (pc' := 19) C (c_X8_in (x := kd) (a := (nI 0)) (b := (nI 4)) ) Y_X8_in (ml_X8_63) [] [0, 1, 2, 3] rfl rfl rfl rfl (by decide) dX8_cures_16 rfl rfl rfl (Nat.le_of_ble_eq_true rfl) ⟨Nat.le_of_ble_eq_true rfl, Nat.le_of_ble_eq_true rfl⟩ ⟨Nat.le_of_ble_eq_true rfl, Nat.le_of_ble_eq_true rfl⟩ ⟨rfl, rfl⟩ (fun r2 w1 hQ => ?_)
    obtain ⟨rfl, rfl⟩ := hQ
    refine j_perm [(a0, .inr (8, [.int (nI 0), .ref aX, .int ty, .int sp, .int tk, .int pl, .int va, .int fa, .ref aT, .ref aD, .ref aS, .ref aU, .int (nI n), .ref aK, .ref aI, .ref aL, .ref aE, .ref aF, .int sm, .ref aP, .ref aW, .int sn, .ref aB, .ref aM])), (aT, .inl (cyI, 42, .inl (nA t))), (aS, .inl (cyI, 30, .inl (nA s))), (aU, .inl (cyI, 300, .inl (nA u)))] [0, 1, 2, 3] rfl rfl (by decide) ?_
    refine j_b_eq (pc' := 22) C 40 dX8_cures_19 (by decide) rfl (fun c19 => ?_) (fun c19 => ?_)
    · rw [in_R2 _ _ (by omega)] at c19
      refine j_iconst (v := (-1)) (pc' := 41) C dX8_cures_40 rfl (by decide +kernel) ?_
      exact j_iret C hr hk hA dX8_cures_41 (rfl) (⟨s, u, n, rfl, by unfold cuQ; rw [if_pos (by simp_all)]⟩)
    · rw [in_R2 _ _ (by omega)] at c19
      obtain ⟨q, hq, rfl⟩ := inR_t c19 (by omega)
      refine j_iload_n (pc' := 23) C dX8_cures_22 rfl 3 rfl ?_
      refine j_iconst (v := (nI 0)) (pc' := 24) C dX8_cures_23 rfl (by decide +kernel) ?_
      refine j_iload_n (pc' := 25) C dX8_cures_24 rfl 2 rfl ?_
      refine j_iconst (v := (nI 2)) (pc' := 26) C dX8_cures_25 rfl (by decide +kernel) ?_
      refine j_nc_ge (pc' := 29) C 33 dX8_cures_26 (by decide) rfl (by omega) (by omega) (fun c26 => ?_) (fun c26 => ?_)
      · refine j_iconst (v := (nI 0)) (pc' := 34) C dX8_cures_33 rfl (by decide +kernel) ?_
        refine j_cSi (As := [.int b, .int (nI 0), .int (nI 0)]) (wr := [(a0, .inr (8, [.int (nI 0), .ref aX, .int ty, .int sp, .int tk, .int pl, .int va, .int fa, .ref aT, .ref aD, .ref aS, .ref aU, .int (nI n), .ref aK, .ref aI, .ref aL, .ref aE, .ref aF, .int sm, .ref aP, .ref aW, .int sn, .ref aB, .ref aM])), (aT, .inl (cyI, 42, .inl (nA t))), (aS, .inl (cyI, 30, .inl (nA s))), (aU, .inl (cyI, 300, .inl (nA u)))]) (pc' := 37) C (c_X8_in (x := b) (a := (nI 0)) (b := (nI 0)) ) Y_X8_in (ml_X8_63) [] [0, 1, 2, 3] rfl rfl rfl rfl (by decide) dX8_cures_34 rfl rfl rfl (Nat.le_of_ble_eq_true rfl) ⟨Nat.le_of_ble_eq_true rfl, Nat.le_of_ble_eq_true rfl⟩ ⟨Nat.le_of_ble_eq_true rfl, Nat.le_of_ble_eq_true rfl⟩ ⟨rfl, rfl⟩ (fun r3 w1 hQ => ?_)
        obtain ⟨rfl, rfl⟩ := hQ
        refine j_perm [(a0, .inr (8, [.int (nI 0), .ref aX, .int ty, .int sp, .int tk, .int pl, .int va, .int fa, .ref aT, .ref aD, .ref aS, .ref aU, .int (nI n), .ref aK, .ref aI, .ref aL, .ref aE, .ref aF, .int sm, .ref aP, .ref aW, .int sn, .ref aB, .ref aM])), (aT, .inl (cyI, 42, .inl (nA t))), (aS, .inl (cyI, 30, .inl (nA s))), (aU, .inl (cyI, 300, .inl (nA u)))] [0, 1, 2, 3] rfl rfl (by decide) ?_
        refine j_b_ne (pc' := 40) C 42 dX8_cures_37 (by decide) rfl (fun c37 => ?_) (fun c37 => ?_)
        · rw [in_R2 _ _ (by omega)] at c37
          obtain ⟨y, hy, rfl⟩ := inR_t c37 (by omega)
          refine j_aload_n (pc' := 43) C dX8_cures_42 rfl 0 rfl ?_
          refine j_get (v := .ref aS) (pc' := 46) C KX8 0 10 rfl (by decide) fl_X8_19 rfl rfl dX8_cures_43 rfl ?_
          refine j_iconst (v := (nI 3)) (pc' := 47) C dX8_cures_46 rfl (by decide +kernel) ?_
          refine j_iload_n (pc' := 48) C dX8_cures_47 rfl 1 rfl ?_
          refine j_iadd (v := (nI (3 + j))) (pc' := 49) C dX8_cures_48 rfl (nI_add 3 j) ?_
          refine j_nald (pc' := 50) C 2 rfl (by omega) (by decide) dX8_cures_49 rfl ?_
          refine j_istore (pc' := 52) C [(4, .int (nI (s (3 + j)))), (0, .ref a0), (1, .int (nI j)), (2, .int (nI q)), (3, .int (nI y))] dX8_cures_50 rfl (by decide) rfl ?_
          refine j_iload (pc' := 54) C dX8_cures_52 rfl 0 rfl ?_
          refine j_iload_n (pc' := 55) C dX8_cures_54 rfl 3 rfl ?_
          refine j_nc_ne (pc' := 58) C 74 dX8_cures_55 (by decide) rfl (by omega) (by omega) (fun c55 => ?_) (fun c55 => ?_)
          · refine j_aload_n (pc' := 75) C dX8_cures_74 rfl 1 rfl ?_
            refine j_cVv (As := []) (wr := [(aT, .inl (cyI, 42, .inl (nA t)))]) (pc' := 78) C (c_X8_notes (a0 := a0) (th := (nI 0)) (aX := aX) (ty := ty) (sp := sp) (tk := tk) (pl := pl) (va := va) (fa := fa) (aT := aT) (aD := aD) (aS := aS) (aU := aU) (aK := aK) (aI := aI) (aL := aL) (aE := aE) (aF := aF) (sm := sm) (aP := aP) (aW := aW) (sn := sn) (aB := aB) (aM := aM) (s := s) (u := u) (n := n) (hn := by first | assumption | omega)) Y_X8_notes (ml_X8_157) [0, 2, 3] [1] rfl rfl rfl rfl (by decide) rfl rfl rfl dX8_cures_75 rfl rfl rfl (Nat.le_of_ble_eq_true rfl) ⟨Nat.le_of_ble_eq_true rfl, Nat.le_of_ble_eq_true rfl⟩ ⟨Nat.le_of_ble_eq_true rfl, Nat.le_of_ble_eq_true rfl⟩ ⟨rfl, rfl⟩ (fun w1 hQ => ?_)
            obtain rfl := hQ
            refine j_perm [(a0, .inr (8, [.int (nI 0), .ref aX, .int ty, .int sp, .int tk, .int pl, .int va, .int fa, .ref aT, .ref aD, .ref aS, .ref aU, .int (nI (nN n + 1)), .ref aK, .ref aI, .ref aL, .ref aE, .ref aF, .int sm, .ref aP, .ref aW, .int sn, .ref aB, .ref aM])), (aT, .inl (cyI, 42, .inl (nA t))), (aS, .inl (cyI, 30, .inl (nA s))), (aU, .inl (cyI, 300, .inl (nA (nU u s n))))] [1, 0, 2, 3] rfl rfl (by decide) ?_
            refine j_aload_n (pc' := 79) C dX8_cures_78 rfl 1 rfl ?_
            refine j_get (v := .ref aS) (pc' := 82) C KX8 0 10 rfl (by decide) fl_X8_19 rfl rfl dX8_cures_79 rfl ?_
            refine j_iconst (v := (nI 3)) (pc' := 83) C dX8_cures_82 rfl (by decide +kernel) ?_
            refine j_iload_n (pc' := 84) C dX8_cures_83 rfl 2 rfl ?_
            refine j_iadd (v := (nI (3 + j))) (pc' := 85) C dX8_cures_84 rfl (nI_add 3 j) ?_
            refine j_iload_n (pc' := 86) C dX8_cures_85 rfl 3 rfl ?_
            refine j_nast (pc' := 87) C [(a0, .inr (8, [.int (nI 0), .ref aX, .int ty, .int sp, .int tk, .int pl, .int va, .int fa, .ref aT, .ref aD, .ref aS, .ref aU, .int (nI (nN n + 1)), .ref aK, .ref aI, .ref aL, .ref aE, .ref aF, .int sm, .ref aP, .ref aW, .int sn, .ref aB, .ref aM])), (aT, .inl (cyI, 42, .inl (nA t))), (aS, .inl (cyI, 30, .inl (nA (uN s (3 + j) q)))), (aU, .inl (cyI, 300, .inl (nA (nU u s n))))] 2 rfl (by omega) (by decide) dX8_cures_86 rfl rfl ?_
            refine j_aload_n (pc' := 88) C dX8_cures_87 rfl 1 rfl ?_
            refine j_get (v := .ref aS) (pc' := 91) C KX8 0 10 rfl (by decide) fl_X8_19 rfl rfl dX8_cures_88 rfl ?_
            refine j_bipush (v := (nI 12)) (pc' := 93) C dX8_cures_91 rfl (by decide +kernel) ?_
            refine j_iload_n (pc' := 94) C dX8_cures_93 rfl 2 rfl ?_
            refine j_iadd (v := (nI (12 + j))) (pc' := 95) C dX8_cures_94 rfl (nI_add 12 j) ?_
            refine j_iload_n (pc' := 96) C dX8_cures_95 rfl 4 rfl ?_
            refine j_nast (pc' := 97) C [(a0, .inr (8, [.int (nI 0), .ref aX, .int ty, .int sp, .int tk, .int pl, .int va, .int fa, .ref aT, .ref aD, .ref aS, .ref aU, .int (nI (nN n + 1)), .ref aK, .ref aI, .ref aL, .ref aE, .ref aF, .int sm, .ref aP, .ref aW, .int sn, .ref aB, .ref aM])), (aT, .inl (cyI, 42, .inl (nA t))), (aS, .inl (cyI, 30, .inl (nA (uN (uN s (3 + j) q) (12 + j) y)))), (aU, .inl (cyI, 300, .inl (nA (nU u s n))))] 2 rfl (by omega) (by decide) dX8_cures_96 rfl rfl ?_
            refine j_iload (pc' := 99) C dX8_cures_97 rfl 0 rfl ?_
            exact j_iret C hr hk hA dX8_cures_99 (rfl) (⟨_, _, _, rfl, by unfold cuQ; rw [nI_toInt (n := q) (by omega)]; (first | rw [if_pos (show (q : Int) < 2 by omega)] | rw [if_neg (show ¬ (q : Int) < 2 by omega)]); rw [if_neg (by simp_all), nI_clamp (by omega), nI_clamp (by omega), nI_clamp (by omega), if_neg (by simp_all)]⟩)
          · refine j_aload_n (pc' := 59) C dX8_cures_58 rfl 1 rfl ?_
            refine j_get (v := .ref aS) (pc' := 62) C KX8 0 10 rfl (by decide) fl_X8_19 rfl rfl dX8_cures_59 rfl ?_
            refine j_bipush (v := (nI 12)) (pc' := 64) C dX8_cures_62 rfl (by decide +kernel) ?_
            refine j_iload_n (pc' := 65) C dX8_cures_64 rfl 2 rfl ?_
            refine j_iadd (v := (nI (12 + j))) (pc' := 66) C dX8_cures_65 rfl (nI_add 12 j) ?_
            refine j_nald (pc' := 67) C 2 rfl (by omega) (by decide) dX8_cures_66 rfl ?_
            refine j_iload_n (pc' := 68) C dX8_cures_67 rfl 4 rfl ?_
            refine j_nc_ne (pc' := 71) C 74 dX8_cures_68 (by decide) rfl (by omega) (by omega) (fun c68 => ?_) (fun c68 => ?_)
            · refine j_aload_n (pc' := 75) C dX8_cures_74 rfl 1 rfl ?_
              refine j_cVv (As := []) (wr := [(aT, .inl (cyI, 42, .inl (nA t)))]) (pc' := 78) C (c_X8_notes (a0 := a0) (th := (nI 0)) (aX := aX) (ty := ty) (sp := sp) (tk := tk) (pl := pl) (va := va) (fa := fa) (aT := aT) (aD := aD) (aS := aS) (aU := aU) (aK := aK) (aI := aI) (aL := aL) (aE := aE) (aF := aF) (sm := sm) (aP := aP) (aW := aW) (sn := sn) (aB := aB) (aM := aM) (s := s) (u := u) (n := n) (hn := by first | assumption | omega)) Y_X8_notes (ml_X8_157) [0, 2, 3] [1] rfl rfl rfl rfl (by decide) rfl rfl rfl dX8_cures_75 rfl rfl rfl (Nat.le_of_ble_eq_true rfl) ⟨Nat.le_of_ble_eq_true rfl, Nat.le_of_ble_eq_true rfl⟩ ⟨Nat.le_of_ble_eq_true rfl, Nat.le_of_ble_eq_true rfl⟩ ⟨rfl, rfl⟩ (fun w1 hQ => ?_)
              obtain rfl := hQ
              refine j_perm [(a0, .inr (8, [.int (nI 0), .ref aX, .int ty, .int sp, .int tk, .int pl, .int va, .int fa, .ref aT, .ref aD, .ref aS, .ref aU, .int (nI (nN n + 1)), .ref aK, .ref aI, .ref aL, .ref aE, .ref aF, .int sm, .ref aP, .ref aW, .int sn, .ref aB, .ref aM])), (aT, .inl (cyI, 42, .inl (nA t))), (aS, .inl (cyI, 30, .inl (nA s))), (aU, .inl (cyI, 300, .inl (nA (nU u s n))))] [1, 0, 2, 3] rfl rfl (by decide) ?_
              refine j_aload_n (pc' := 79) C dX8_cures_78 rfl 1 rfl ?_
              refine j_get (v := .ref aS) (pc' := 82) C KX8 0 10 rfl (by decide) fl_X8_19 rfl rfl dX8_cures_79 rfl ?_
              refine j_iconst (v := (nI 3)) (pc' := 83) C dX8_cures_82 rfl (by decide +kernel) ?_
              refine j_iload_n (pc' := 84) C dX8_cures_83 rfl 2 rfl ?_
              refine j_iadd (v := (nI (3 + j))) (pc' := 85) C dX8_cures_84 rfl (nI_add 3 j) ?_
              refine j_iload_n (pc' := 86) C dX8_cures_85 rfl 3 rfl ?_
              refine j_nast (pc' := 87) C [(a0, .inr (8, [.int (nI 0), .ref aX, .int ty, .int sp, .int tk, .int pl, .int va, .int fa, .ref aT, .ref aD, .ref aS, .ref aU, .int (nI (nN n + 1)), .ref aK, .ref aI, .ref aL, .ref aE, .ref aF, .int sm, .ref aP, .ref aW, .int sn, .ref aB, .ref aM])), (aT, .inl (cyI, 42, .inl (nA t))), (aS, .inl (cyI, 30, .inl (nA (uN s (3 + j) q)))), (aU, .inl (cyI, 300, .inl (nA (nU u s n))))] 2 rfl (by omega) (by decide) dX8_cures_86 rfl rfl ?_
              refine j_aload_n (pc' := 88) C dX8_cures_87 rfl 1 rfl ?_
              refine j_get (v := .ref aS) (pc' := 91) C KX8 0 10 rfl (by decide) fl_X8_19 rfl rfl dX8_cures_88 rfl ?_
              refine j_bipush (v := (nI 12)) (pc' := 93) C dX8_cures_91 rfl (by decide +kernel) ?_
              refine j_iload_n (pc' := 94) C dX8_cures_93 rfl 2 rfl ?_
              refine j_iadd (v := (nI (12 + j))) (pc' := 95) C dX8_cures_94 rfl (nI_add 12 j) ?_
              refine j_iload_n (pc' := 96) C dX8_cures_95 rfl 4 rfl ?_
              refine j_nast (pc' := 97) C [(a0, .inr (8, [.int (nI 0), .ref aX, .int ty, .int sp, .int tk, .int pl, .int va, .int fa, .ref aT, .ref aD, .ref aS, .ref aU, .int (nI (nN n + 1)), .ref aK, .ref aI, .ref aL, .ref aE, .ref aF, .int sm, .ref aP, .ref aW, .int sn, .ref aB, .ref aM])), (aT, .inl (cyI, 42, .inl (nA t))), (aS, .inl (cyI, 30, .inl (nA (uN (uN s (3 + j) q) (12 + j) y)))), (aU, .inl (cyI, 300, .inl (nA (nU u s n))))] 2 rfl (by omega) (by decide) dX8_cures_96 rfl rfl ?_
              refine j_iload (pc' := 99) C dX8_cures_97 rfl 0 rfl ?_
              exact j_iret C hr hk hA dX8_cures_99 (rfl) (⟨_, _, _, rfl, by unfold cuQ; rw [nI_toInt (n := q) (by omega)]; (first | rw [if_pos (show (q : Int) < 2 by omega)] | rw [if_neg (show ¬ (q : Int) < 2 by omega)]); rw [if_neg (by simp_all), nI_clamp (by omega), nI_clamp (by omega), nI_clamp (by omega), if_neg (by simp_all)]⟩)
            · refine j_bipush (v := (-2)) (pc' := 73) C dX8_cures_71 rfl (by decide +kernel) ?_
              exact j_iret C hr hk hA dX8_cures_73 (rfl) (⟨s, u, n, rfl, by unfold cuQ; rw [nI_toInt (n := q) (by omega)]; (first | rw [if_pos (show (q : Int) < 2 by omega)] | rw [if_neg (show ¬ (q : Int) < 2 by omega)]); rw [if_neg (by simp_all), nI_clamp (by omega), nI_clamp (by omega), nI_clamp (by omega), if_pos ⟨c55, c68⟩]⟩)
        · rw [in_R2 _ _ (by omega)] at c37
          refine j_iconst (v := (-1)) (pc' := 41) C dX8_cures_40 rfl (by decide +kernel) ?_
          exact j_iret C hr hk hA dX8_cures_41 (rfl) (⟨s, u, n, rfl, by unfold cuQ; rw [nI_toInt (n := q) (by omega)]; (first | rw [if_pos (show (q : Int) < 2 by omega)] | rw [if_neg (show ¬ (q : Int) < 2 by omega)]); rw [if_pos (by simp_all)]⟩)
      · refine j_iconst (v := (nI 3)) (pc' := 30) C dX8_cures_29 rfl (by decide +kernel) ?_
        refine j_goto C 34 dX8_cures_30 (by decide) ?_
        refine j_cSi (As := [.int b, .int (nI 0), .int (nI 3)]) (wr := [(a0, .inr (8, [.int (nI 0), .ref aX, .int ty, .int sp, .int tk, .int pl, .int va, .int fa, .ref aT, .ref aD, .ref aS, .ref aU, .int (nI n), .ref aK, .ref aI, .ref aL, .ref aE, .ref aF, .int sm, .ref aP, .ref aW, .int sn, .ref aB, .ref aM])), (aT, .inl (cyI, 42, .inl (nA t))), (aS, .inl (cyI, 30, .inl (nA s))), (aU, .inl (cyI, 300, .inl (nA u)))]) (pc' := 37) C (c_X8_in (x := b) (a := (nI 0)) (b := (nI 3)) ) Y_X8_in (ml_X8_63) [] [0, 1, 2, 3] rfl rfl rfl rfl (by decide) dX8_cures_34 rfl rfl rfl (Nat.le_of_ble_eq_true rfl) ⟨Nat.le_of_ble_eq_true rfl, Nat.le_of_ble_eq_true rfl⟩ ⟨Nat.le_of_ble_eq_true rfl, Nat.le_of_ble_eq_true rfl⟩ ⟨rfl, rfl⟩ (fun r6 w1 hQ => ?_)
        obtain ⟨rfl, rfl⟩ := hQ
        refine j_perm [(a0, .inr (8, [.int (nI 0), .ref aX, .int ty, .int sp, .int tk, .int pl, .int va, .int fa, .ref aT, .ref aD, .ref aS, .ref aU, .int (nI n), .ref aK, .ref aI, .ref aL, .ref aE, .ref aF, .int sm, .ref aP, .ref aW, .int sn, .ref aB, .ref aM])), (aT, .inl (cyI, 42, .inl (nA t))), (aS, .inl (cyI, 30, .inl (nA s))), (aU, .inl (cyI, 300, .inl (nA u)))] [0, 1, 2, 3] rfl rfl (by decide) ?_
        refine j_b_ne (pc' := 40) C 42 dX8_cures_37 (by decide) rfl (fun c37 => ?_) (fun c37 => ?_)
        · rw [in_R2 _ _ (by omega)] at c37
          obtain ⟨y, hy, rfl⟩ := inR_t c37 (by omega)
          refine j_aload_n (pc' := 43) C dX8_cures_42 rfl 0 rfl ?_
          refine j_get (v := .ref aS) (pc' := 46) C KX8 0 10 rfl (by decide) fl_X8_19 rfl rfl dX8_cures_43 rfl ?_
          refine j_iconst (v := (nI 3)) (pc' := 47) C dX8_cures_46 rfl (by decide +kernel) ?_
          refine j_iload_n (pc' := 48) C dX8_cures_47 rfl 1 rfl ?_
          refine j_iadd (v := (nI (3 + j))) (pc' := 49) C dX8_cures_48 rfl (nI_add 3 j) ?_
          refine j_nald (pc' := 50) C 2 rfl (by omega) (by decide) dX8_cures_49 rfl ?_
          refine j_istore (pc' := 52) C [(4, .int (nI (s (3 + j)))), (0, .ref a0), (1, .int (nI j)), (2, .int (nI q)), (3, .int (nI y))] dX8_cures_50 rfl (by decide) rfl ?_
          refine j_iload (pc' := 54) C dX8_cures_52 rfl 0 rfl ?_
          refine j_iload_n (pc' := 55) C dX8_cures_54 rfl 3 rfl ?_
          refine j_nc_ne (pc' := 58) C 74 dX8_cures_55 (by decide) rfl (by omega) (by omega) (fun c55 => ?_) (fun c55 => ?_)
          · refine j_aload_n (pc' := 75) C dX8_cures_74 rfl 1 rfl ?_
            refine j_cVv (As := []) (wr := [(aT, .inl (cyI, 42, .inl (nA t)))]) (pc' := 78) C (c_X8_notes (a0 := a0) (th := (nI 0)) (aX := aX) (ty := ty) (sp := sp) (tk := tk) (pl := pl) (va := va) (fa := fa) (aT := aT) (aD := aD) (aS := aS) (aU := aU) (aK := aK) (aI := aI) (aL := aL) (aE := aE) (aF := aF) (sm := sm) (aP := aP) (aW := aW) (sn := sn) (aB := aB) (aM := aM) (s := s) (u := u) (n := n) (hn := by first | assumption | omega)) Y_X8_notes (ml_X8_157) [0, 2, 3] [1] rfl rfl rfl rfl (by decide) rfl rfl rfl dX8_cures_75 rfl rfl rfl (Nat.le_of_ble_eq_true rfl) ⟨Nat.le_of_ble_eq_true rfl, Nat.le_of_ble_eq_true rfl⟩ ⟨Nat.le_of_ble_eq_true rfl, Nat.le_of_ble_eq_true rfl⟩ ⟨rfl, rfl⟩ (fun w1 hQ => ?_)
            obtain rfl := hQ
            refine j_perm [(a0, .inr (8, [.int (nI 0), .ref aX, .int ty, .int sp, .int tk, .int pl, .int va, .int fa, .ref aT, .ref aD, .ref aS, .ref aU, .int (nI (nN n + 1)), .ref aK, .ref aI, .ref aL, .ref aE, .ref aF, .int sm, .ref aP, .ref aW, .int sn, .ref aB, .ref aM])), (aT, .inl (cyI, 42, .inl (nA t))), (aS, .inl (cyI, 30, .inl (nA s))), (aU, .inl (cyI, 300, .inl (nA (nU u s n))))] [1, 0, 2, 3] rfl rfl (by decide) ?_
            refine j_aload_n (pc' := 79) C dX8_cures_78 rfl 1 rfl ?_
            refine j_get (v := .ref aS) (pc' := 82) C KX8 0 10 rfl (by decide) fl_X8_19 rfl rfl dX8_cures_79 rfl ?_
            refine j_iconst (v := (nI 3)) (pc' := 83) C dX8_cures_82 rfl (by decide +kernel) ?_
            refine j_iload_n (pc' := 84) C dX8_cures_83 rfl 2 rfl ?_
            refine j_iadd (v := (nI (3 + j))) (pc' := 85) C dX8_cures_84 rfl (nI_add 3 j) ?_
            refine j_iload_n (pc' := 86) C dX8_cures_85 rfl 3 rfl ?_
            refine j_nast (pc' := 87) C [(a0, .inr (8, [.int (nI 0), .ref aX, .int ty, .int sp, .int tk, .int pl, .int va, .int fa, .ref aT, .ref aD, .ref aS, .ref aU, .int (nI (nN n + 1)), .ref aK, .ref aI, .ref aL, .ref aE, .ref aF, .int sm, .ref aP, .ref aW, .int sn, .ref aB, .ref aM])), (aT, .inl (cyI, 42, .inl (nA t))), (aS, .inl (cyI, 30, .inl (nA (uN s (3 + j) q)))), (aU, .inl (cyI, 300, .inl (nA (nU u s n))))] 2 rfl (by omega) (by decide) dX8_cures_86 rfl rfl ?_
            refine j_aload_n (pc' := 88) C dX8_cures_87 rfl 1 rfl ?_
            refine j_get (v := .ref aS) (pc' := 91) C KX8 0 10 rfl (by decide) fl_X8_19 rfl rfl dX8_cures_88 rfl ?_
            refine j_bipush (v := (nI 12)) (pc' := 93) C dX8_cures_91 rfl (by decide +kernel) ?_
            refine j_iload_n (pc' := 94) C dX8_cures_93 rfl 2 rfl ?_
            refine j_iadd (v := (nI (12 + j))) (pc' := 95) C dX8_cures_94 rfl (nI_add 12 j) ?_
            refine j_iload_n (pc' := 96) C dX8_cures_95 rfl 4 rfl ?_
            refine j_nast (pc' := 97) C [(a0, .inr (8, [.int (nI 0), .ref aX, .int ty, .int sp, .int tk, .int pl, .int va, .int fa, .ref aT, .ref aD, .ref aS, .ref aU, .int (nI (nN n + 1)), .ref aK, .ref aI, .ref aL, .ref aE, .ref aF, .int sm, .ref aP, .ref aW, .int sn, .ref aB, .ref aM])), (aT, .inl (cyI, 42, .inl (nA t))), (aS, .inl (cyI, 30, .inl (nA (uN (uN s (3 + j) q) (12 + j) y)))), (aU, .inl (cyI, 300, .inl (nA (nU u s n))))] 2 rfl (by omega) (by decide) dX8_cures_96 rfl rfl ?_
            refine j_iload (pc' := 99) C dX8_cures_97 rfl 0 rfl ?_
            exact j_iret C hr hk hA dX8_cures_99 (rfl) (⟨_, _, _, rfl, by unfold cuQ; rw [nI_toInt (n := q) (by omega)]; (first | rw [if_pos (show (q : Int) < 2 by omega)] | rw [if_neg (show ¬ (q : Int) < 2 by omega)]); rw [if_neg (by simp_all), nI_clamp (by omega), nI_clamp (by omega), nI_clamp (by omega), if_neg (by simp_all)]⟩)
          · refine j_aload_n (pc' := 59) C dX8_cures_58 rfl 1 rfl ?_
            refine j_get (v := .ref aS) (pc' := 62) C KX8 0 10 rfl (by decide) fl_X8_19 rfl rfl dX8_cures_59 rfl ?_
            refine j_bipush (v := (nI 12)) (pc' := 64) C dX8_cures_62 rfl (by decide +kernel) ?_
            refine j_iload_n (pc' := 65) C dX8_cures_64 rfl 2 rfl ?_
            refine j_iadd (v := (nI (12 + j))) (pc' := 66) C dX8_cures_65 rfl (nI_add 12 j) ?_
            refine j_nald (pc' := 67) C 2 rfl (by omega) (by decide) dX8_cures_66 rfl ?_
            refine j_iload_n (pc' := 68) C dX8_cures_67 rfl 4 rfl ?_
            refine j_nc_ne (pc' := 71) C 74 dX8_cures_68 (by decide) rfl (by omega) (by omega) (fun c68 => ?_) (fun c68 => ?_)
            · refine j_aload_n (pc' := 75) C dX8_cures_74 rfl 1 rfl ?_
              refine j_cVv (As := []) (wr := [(aT, .inl (cyI, 42, .inl (nA t)))]) (pc' := 78) C (c_X8_notes (a0 := a0) (th := (nI 0)) (aX := aX) (ty := ty) (sp := sp) (tk := tk) (pl := pl) (va := va) (fa := fa) (aT := aT) (aD := aD) (aS := aS) (aU := aU) (aK := aK) (aI := aI) (aL := aL) (aE := aE) (aF := aF) (sm := sm) (aP := aP) (aW := aW) (sn := sn) (aB := aB) (aM := aM) (s := s) (u := u) (n := n) (hn := by first | assumption | omega)) Y_X8_notes (ml_X8_157) [0, 2, 3] [1] rfl rfl rfl rfl (by decide) rfl rfl rfl dX8_cures_75 rfl rfl rfl (Nat.le_of_ble_eq_true rfl) ⟨Nat.le_of_ble_eq_true rfl, Nat.le_of_ble_eq_true rfl⟩ ⟨Nat.le_of_ble_eq_true rfl, Nat.le_of_ble_eq_true rfl⟩ ⟨rfl, rfl⟩ (fun w1 hQ => ?_)
              obtain rfl := hQ
              refine j_perm [(a0, .inr (8, [.int (nI 0), .ref aX, .int ty, .int sp, .int tk, .int pl, .int va, .int fa, .ref aT, .ref aD, .ref aS, .ref aU, .int (nI (nN n + 1)), .ref aK, .ref aI, .ref aL, .ref aE, .ref aF, .int sm, .ref aP, .ref aW, .int sn, .ref aB, .ref aM])), (aT, .inl (cyI, 42, .inl (nA t))), (aS, .inl (cyI, 30, .inl (nA s))), (aU, .inl (cyI, 300, .inl (nA (nU u s n))))] [1, 0, 2, 3] rfl rfl (by decide) ?_
              refine j_aload_n (pc' := 79) C dX8_cures_78 rfl 1 rfl ?_
              refine j_get (v := .ref aS) (pc' := 82) C KX8 0 10 rfl (by decide) fl_X8_19 rfl rfl dX8_cures_79 rfl ?_
              refine j_iconst (v := (nI 3)) (pc' := 83) C dX8_cures_82 rfl (by decide +kernel) ?_
              refine j_iload_n (pc' := 84) C dX8_cures_83 rfl 2 rfl ?_
              refine j_iadd (v := (nI (3 + j))) (pc' := 85) C dX8_cures_84 rfl (nI_add 3 j) ?_
              refine j_iload_n (pc' := 86) C dX8_cures_85 rfl 3 rfl ?_
              refine j_nast (pc' := 87) C [(a0, .inr (8, [.int (nI 0), .ref aX, .int ty, .int sp, .int tk, .int pl, .int va, .int fa, .ref aT, .ref aD, .ref aS, .ref aU, .int (nI (nN n + 1)), .ref aK, .ref aI, .ref aL, .ref aE, .ref aF, .int sm, .ref aP, .ref aW, .int sn, .ref aB, .ref aM])), (aT, .inl (cyI, 42, .inl (nA t))), (aS, .inl (cyI, 30, .inl (nA (uN s (3 + j) q)))), (aU, .inl (cyI, 300, .inl (nA (nU u s n))))] 2 rfl (by omega) (by decide) dX8_cures_86 rfl rfl ?_
              refine j_aload_n (pc' := 88) C dX8_cures_87 rfl 1 rfl ?_
              refine j_get (v := .ref aS) (pc' := 91) C KX8 0 10 rfl (by decide) fl_X8_19 rfl rfl dX8_cures_88 rfl ?_
              refine j_bipush (v := (nI 12)) (pc' := 93) C dX8_cures_91 rfl (by decide +kernel) ?_
              refine j_iload_n (pc' := 94) C dX8_cures_93 rfl 2 rfl ?_
              refine j_iadd (v := (nI (12 + j))) (pc' := 95) C dX8_cures_94 rfl (nI_add 12 j) ?_
              refine j_iload_n (pc' := 96) C dX8_cures_95 rfl 4 rfl ?_
              refine j_nast (pc' := 97) C [(a0, .inr (8, [.int (nI 0), .ref aX, .int ty, .int sp, .int tk, .int pl, .int va, .int fa, .ref aT, .ref aD, .ref aS, .ref aU, .int (nI (nN n + 1)), .ref aK, .ref aI, .ref aL, .ref aE, .ref aF, .int sm, .ref aP, .ref aW, .int sn, .ref aB, .ref aM])), (aT, .inl (cyI, 42, .inl (nA t))), (aS, .inl (cyI, 30, .inl (nA (uN (uN s (3 + j) q) (12 + j) y)))), (aU, .inl (cyI, 300, .inl (nA (nU u s n))))] 2 rfl (by omega) (by decide) dX8_cures_96 rfl rfl ?_
              refine j_iload (pc' := 99) C dX8_cures_97 rfl 0 rfl ?_
              exact j_iret C hr hk hA dX8_cures_99 (rfl) (⟨_, _, _, rfl, by unfold cuQ; rw [nI_toInt (n := q) (by omega)]; (first | rw [if_pos (show (q : Int) < 2 by omega)] | rw [if_neg (show ¬ (q : Int) < 2 by omega)]); rw [if_neg (by simp_all), nI_clamp (by omega), nI_clamp (by omega), nI_clamp (by omega), if_neg (by simp_all)]⟩)
            · refine j_bipush (v := (-2)) (pc' := 73) C dX8_cures_71 rfl (by decide +kernel) ?_
              exact j_iret C hr hk hA dX8_cures_73 (rfl) (⟨s, u, n, rfl, by unfold cuQ; rw [nI_toInt (n := q) (by omega)]; (first | rw [if_pos (show (q : Int) < 2 by omega)] | rw [if_neg (show ¬ (q : Int) < 2 by omega)]); rw [if_neg (by simp_all), nI_clamp (by omega), nI_clamp (by omega), nI_clamp (by omega), if_pos ⟨c55, c68⟩]⟩)
        · rw [in_R2 _ _ (by omega)] at c37
          refine j_iconst (v := (-1)) (pc' := 41) C dX8_cures_40 rfl (by decide +kernel) ?_
          exact j_iret C hr hk hA dX8_cures_41 (rfl) (⟨s, u, n, rfl, by unfold cuQ; rw [nI_toInt (n := q) (by omega)]; (first | rw [if_pos (show (q : Int) < 2 by omega)] | rw [if_neg (show ¬ (q : Int) < 2 by omega)]); rw [if_pos (by simp_all)]⟩)

set_option maxHeartbeats 4000000 in
set_option maxRecDepth 100000 in
theorem c_X8_sticks {lch : Launch} {dG : va_G} {cyI cyZ cyO : ClassId} (a0 : Nat) (th : Int32) (aX : Nat) (ty : Int32) (sp : Int32) (tk : Int32) (pl : Int32) (va : Int32) (fa : Int32) (aT : Nat) (aD : Nat) (aS : Nat) (aU : Nat) (aK : Nat) (aI : Nat) (aL : Nat) (aE : Nat) (aF : Nat) (sm : Int32) (aP : Nat) (aW : Nat) (sn : Int32) (aB : Nat) (aM : Nat) (t : Nat → Nat) (s : Nat → Nat) (u : Nat → Nat) (n : Nat) (cc : Int32) (hw : Int32) (hT : WT t) (hn : n ≤ 10) (hS : WS s) : Ki lch yX8_sticks cX8_sticks 4 .int (rmk 3) dG (cyI, cyZ, cyO) [.ref a0, .int cc, .int hw] [(a0, .inr (8, [.int th, .ref aX, .int ty, .int sp, .int tk, .int pl, .int va, .int fa, .ref aT, .ref aD, .ref aS, .ref aU, .int (nI n), .ref aK, .ref aI, .ref aL, .ref aE, .ref aF, .int sm, .ref aP, .ref aW, .int sn, .ref aB, .ref aM])), (aT, .inl (cyI, 42, .inl (nA t))), (aS, .inl (cyI, 30, .inl (nA s))), (aU, .inl (cyI, 300, .inl (nA u)))] (fun r w1 => ∃ (s1 : Nat → Nat), ∃ (u1 : Nat → Nat), ∃ (n1 : Nat), w1 = [(a0, .inr (8, [.int (nI 0), .ref aX, .int ty, .int sp, .int tk, .int pl, .int va, .int fa, .ref aT, .ref aD, .ref aS, .ref aU, .int (nI n1), .ref aK, .ref aI, .ref aL, .ref aE, .ref aF, .int sm, .ref aP, .ref aW, .int sn, .ref aB, .ref aM])), (aT, .inl (cyI, 42, .inl (nA t))), (aS, .inl (cyI, 30, .inl (nA s1))), (aU, .inl (cyI, 300, .inl (nA u1)))] ∧ (r, s1, u1, n1) = skQ t s u n cc hw) := by
  have h1 := hT.n
  refine Ki.of (own := RX8) rfl (by decide) (Nat.le_of_ble_eq_true rfl) (fun p0 e0 s0 m0 ar0 be0 me0 cd0 A0 C hr hk hnm hA => ?_)
  refine j_lsub [(0, .ref a0), (1, .int cc), (2, .int hw)] [0, 1, 2] rfl ?_
  refine j_aload_n (pc' := 1) C dX8_sticks_0 rfl 0 rfl ?_
  refine j_iconst (v := (nI 0)) (pc' := 2) C dX8_sticks_1 rfl (by decide +kernel) ?_
  refine j_put (pc' := 5) C [(a0, .inr (8, [.int (nI 0), .ref aX, .int ty, .int sp, .int tk, .int pl, .int va, .int fa, .ref aT, .ref aD, .ref aS, .ref aU, .int (nI n), .ref aK, .ref aI, .ref aL, .ref aE, .ref aF, .int sm, .ref aP, .ref aW, .int sn, .ref aB, .ref aM])), (aT, .inl (cyI, 42, .inl (nA t))), (aS, .inl (cyI, 30, .inl (nA s))), (aU, .inl (cyI, 300, .inl (nA u)))] KX8 0 0 rfl (by decide) fl_X8_59 rfl rfl rfl rfl (Nat.le_of_ble_eq_true rfl) dX8_sticks_2 rfl rfl ?_
  refine j_aload_n (pc' := 6) C dX8_sticks_5 rfl 0 rfl ?_
  refine j_iload_n (pc' := 7) C dX8_sticks_6 rfl 1 rfl ?_
  refine j_cVi (As := [.int cc]) (wr := [(aS, .inl (cyI, 30, .inl (nA s))), (aU, .inl (cyI, 300, .inl (nA u)))]) (pc' := 10) C (c_X8_isContact (a0 := a0) (th := (nI 0)) (aX := aX) (ty := ty) (sp := sp) (tk := tk) (pl := pl) (va := va) (fa := fa) (aT := aT) (aD := aD) (aS := aS) (aU := aU) (um := (nI n)) (aK := aK) (aI := aI) (aL := aL) (aE := aE) (aF := aF) (sm := sm) (aP := aP) (aW := aW) (sn := sn) (aB := aB) (aM := aM) (t := t) (v := cc) (hT := by first | assumption | omega)) Y_X8_isContact (ml_X8_147) [0, 1] [2, 3] rfl rfl rfl rfl (by decide) rfl rfl rfl dX8_sticks_7 rfl rfl rfl (Nat.le_of_ble_eq_true rfl) ⟨Nat.le_of_ble_eq_true rfl, Nat.le_of_ble_eq_true rfl⟩ ⟨Nat.le_of_ble_eq_true rfl, Nat.le_of_ble_eq_true rfl⟩ ⟨rfl, rfl⟩ (fun r1 w1 hQ => ?_)
  obtain ⟨rfl, rfl⟩ := hQ
  refine j_perm [(a0, .inr (8, [.int (nI 0), .ref aX, .int ty, .int sp, .int tk, .int pl, .int va, .int fa, .ref aT, .ref aD, .ref aS, .ref aU, .int (nI n), .ref aK, .ref aI, .ref aL, .ref aE, .ref aF, .int sm, .ref aP, .ref aW, .int sn, .ref aB, .ref aM])), (aT, .inl (cyI, 42, .inl (nA t))), (aS, .inl (cyI, 30, .inl (nA s))), (aU, .inl (cyI, 300, .inl (nA u)))] [2, 3, 0, 1] rfl rfl (by decide) ?_
  refine j_b_eq (pc' := 13) C 22 dX8_sticks_10 (by decide) rfl (fun c10 => ?_) (fun c10 => ?_)
  · refine j_iconst (v := (-1)) (pc' := 23) C dX8_sticks_22 rfl (by decide +kernel) ?_
    exact j_iret C hr hk hA dX8_sticks_23 (rfl) (⟨s, u, n, rfl, by unfold skQ; rw [if_pos (by simp_all)]⟩)
  · obtain ⟨j, hj, rfl⟩ := inR_t c10 (by omega)
    have h3 := hS.c (c := j) (by omega)
    refine j_iload_n (pc' := 14) C dX8_sticks_13 rfl 2 rfl ?_
    refine j_iconst (v := (nI 0)) (pc' := 15) C dX8_sticks_14 rfl (by decide +kernel) ?_
    refine j_iconst (v := (nI 2)) (pc' := 16) C dX8_sticks_15 rfl (by decide +kernel) ?_
    refine j_cSi (As := [.int hw, .int (nI 0), .int (nI 2)]) (wr := [(a0, .inr (8, [.int (nI 0), .ref aX, .int ty, .int sp, .int tk, .int pl, .int va, .int fa, .ref aT, .ref aD, .ref aS, .ref aU, .int (nI n), .ref aK, .ref aI, .ref aL, .ref aE, .ref aF, .int sm, .ref aP, .ref aW, .int sn, .ref aB, .ref aM])), (aT, .inl (cyI, 42, .inl (nA t))), (aS, .inl (cyI, 30, .inl (nA s))), (aU, .inl (cyI, 300, .inl (nA u)))]) (pc' := 19) C (c_X8_in (x := hw) (a := (nI 0)) (b := (nI 2)) ) Y_X8_in (ml_X8_63) [] [0, 1, 2, 3] rfl rfl rfl rfl (by decide) dX8_sticks_16 rfl rfl rfl (Nat.le_of_ble_eq_true rfl) ⟨Nat.le_of_ble_eq_true rfl, Nat.le_of_ble_eq_true rfl⟩ ⟨Nat.le_of_ble_eq_true rfl, Nat.le_of_ble_eq_true rfl⟩ ⟨rfl, rfl⟩ (fun r2 w1 hQ => ?_)
    obtain ⟨rfl, rfl⟩ := hQ
    refine j_perm [(a0, .inr (8, [.int (nI 0), .ref aX, .int ty, .int sp, .int tk, .int pl, .int va, .int fa, .ref aT, .ref aD, .ref aS, .ref aU, .int (nI n), .ref aK, .ref aI, .ref aL, .ref aE, .ref aF, .int sm, .ref aP, .ref aW, .int sn, .ref aB, .ref aM])), (aT, .inl (cyI, 42, .inl (nA t))), (aS, .inl (cyI, 30, .inl (nA s))), (aU, .inl (cyI, 300, .inl (nA u)))] [0, 1, 2, 3] rfl rfl (by decide) ?_
    refine j_b_ne (pc' := 22) C 24 dX8_sticks_19 (by decide) rfl (fun c19 => ?_) (fun c19 => ?_)
    · rw [in_R2 _ _ (by omega)] at c19
      obtain ⟨q, hq, rfl⟩ := inR_t c19 (by omega)
      refine j_aload_n (pc' := 25) C dX8_sticks_24 rfl 0 rfl ?_
      refine j_get (v := .ref aS) (pc' := 28) C KX8 0 10 rfl (by decide) fl_X8_19 rfl rfl dX8_sticks_25 rfl ?_
      refine j_bipush (v := (nI 21)) (pc' := 30) C dX8_sticks_28 rfl (by decide +kernel) ?_
      refine j_iload_n (pc' := 31) C dX8_sticks_30 rfl 1 rfl ?_
      refine j_iadd (v := (nI (21 + j))) (pc' := 32) C dX8_sticks_31 rfl (nI_add 21 j) ?_
      refine j_nald (pc' := 33) C 2 rfl (by omega) (by decide) dX8_sticks_32 rfl ?_
      refine j_istore_n (pc' := 34) C [(3, .int (nI (s (21 + j)))), (0, .ref a0), (1, .int (nI j)), (2, .int (nI q))] dX8_sticks_33 rfl (by decide) rfl ?_
      refine j_iload_n (pc' := 35) C dX8_sticks_34 rfl 0 rfl ?_
      refine j_iload_n (pc' := 36) C dX8_sticks_35 rfl 3 rfl ?_
      refine j_nc_ne (pc' := 39) C 42 dX8_sticks_36 (by decide) rfl (by omega) (by omega) (fun c36 => ?_) (fun c36 => ?_)
      · refine j_aload_n (pc' := 43) C dX8_sticks_42 rfl 1 rfl ?_
        refine j_cVv (As := []) (wr := [(aT, .inl (cyI, 42, .inl (nA t)))]) (pc' := 46) C (c_X8_notes (a0 := a0) (th := (nI 0)) (aX := aX) (ty := ty) (sp := sp) (tk := tk) (pl := pl) (va := va) (fa := fa) (aT := aT) (aD := aD) (aS := aS) (aU := aU) (aK := aK) (aI := aI) (aL := aL) (aE := aE) (aF := aF) (sm := sm) (aP := aP) (aW := aW) (sn := sn) (aB := aB) (aM := aM) (s := s) (u := u) (n := n) (hn := by first | assumption | omega)) Y_X8_notes (ml_X8_157) [0, 2, 3] [1] rfl rfl rfl rfl (by decide) rfl rfl rfl dX8_sticks_43 rfl rfl rfl (Nat.le_of_ble_eq_true rfl) ⟨Nat.le_of_ble_eq_true rfl, Nat.le_of_ble_eq_true rfl⟩ ⟨Nat.le_of_ble_eq_true rfl, Nat.le_of_ble_eq_true rfl⟩ ⟨rfl, rfl⟩ (fun w1 hQ => ?_)
        obtain rfl := hQ
        refine j_perm [(a0, .inr (8, [.int (nI 0), .ref aX, .int ty, .int sp, .int tk, .int pl, .int va, .int fa, .ref aT, .ref aD, .ref aS, .ref aU, .int (nI (nN n + 1)), .ref aK, .ref aI, .ref aL, .ref aE, .ref aF, .int sm, .ref aP, .ref aW, .int sn, .ref aB, .ref aM])), (aT, .inl (cyI, 42, .inl (nA t))), (aS, .inl (cyI, 30, .inl (nA s))), (aU, .inl (cyI, 300, .inl (nA (nU u s n))))] [1, 0, 2, 3] rfl rfl (by decide) ?_
        refine j_aload_n (pc' := 47) C dX8_sticks_46 rfl 1 rfl ?_
        refine j_get (v := .ref aS) (pc' := 50) C KX8 0 10 rfl (by decide) fl_X8_19 rfl rfl dX8_sticks_47 rfl ?_
        refine j_bipush (v := (nI 21)) (pc' := 52) C dX8_sticks_50 rfl (by decide +kernel) ?_
        refine j_iload_n (pc' := 53) C dX8_sticks_52 rfl 2 rfl ?_
        refine j_iadd (v := (nI (21 + j))) (pc' := 54) C dX8_sticks_53 rfl (nI_add 21 j) ?_
        refine j_iload_n (pc' := 55) C dX8_sticks_54 rfl 3 rfl ?_
        refine j_nast (pc' := 56) C [(a0, .inr (8, [.int (nI 0), .ref aX, .int ty, .int sp, .int tk, .int pl, .int va, .int fa, .ref aT, .ref aD, .ref aS, .ref aU, .int (nI (nN n + 1)), .ref aK, .ref aI, .ref aL, .ref aE, .ref aF, .int sm, .ref aP, .ref aW, .int sn, .ref aB, .ref aM])), (aT, .inl (cyI, 42, .inl (nA t))), (aS, .inl (cyI, 30, .inl (nA (uN s (21 + j) q)))), (aU, .inl (cyI, 300, .inl (nA (nU u s n))))] 2 rfl (by omega) (by decide) dX8_sticks_55 rfl rfl ?_
        refine j_iload_n (pc' := 57) C dX8_sticks_56 rfl 0 rfl ?_
        exact j_iret C hr hk hA dX8_sticks_57 (rfl) (⟨_, _, _, rfl, by unfold skQ; rw [if_neg (by simp_all), nI_clamp (by omega), nI_clamp (by omega), if_neg c36]⟩)
      · refine j_bipush (v := (-2)) (pc' := 41) C dX8_sticks_39 rfl (by decide +kernel) ?_
        exact j_iret C hr hk hA dX8_sticks_41 (rfl) (⟨s, u, n, rfl, by unfold skQ; rw [if_neg (by simp_all), nI_clamp (by omega), nI_clamp (by omega), if_pos c36]⟩)
    · rw [in_R2 _ _ (by omega)] at c19
      refine j_iconst (v := (-1)) (pc' := 23) C dX8_sticks_22 rfl (by decide +kernel) ?_
      exact j_iret C hr hk hA dX8_sticks_23 (rfl) (⟨s, u, n, rfl, by unfold skQ; rw [if_pos (by simp_all)]⟩)

set_option maxHeartbeats 4000000 in
set_option maxRecDepth 100000 in
theorem c_X8_undo {lch : Launch} {dG : va_G} {cyI cyZ cyO : ClassId} (a0 : Nat) (th : Int32) (aX : Nat) (ty : Int32) (sp : Int32) (tk : Int32) (pl : Int32) (va : Int32) (fa : Int32) (aT : Nat) (aD : Nat) (aS : Nat) (aU : Nat) (aK : Nat) (aI : Nat) (aL : Nat) (aE : Nat) (aF : Nat) (sm : Int32) (aP : Nat) (aW : Nat) (sn : Int32) (aB : Nat) (aM : Nat) (s : Nat → Nat) (u : Nat → Nat) (n : Nat) (hn : n ≤ 10) : Ki lch yX8_undo cX8_undo 2 .int (rmk 1) dG (cyI, cyZ, cyO) [.ref a0] [(a0, .inr (8, [.int th, .ref aX, .int ty, .int sp, .int tk, .int pl, .int va, .int fa, .ref aT, .ref aD, .ref aS, .ref aU, .int (nI n), .ref aK, .ref aI, .ref aL, .ref aE, .ref aF, .int sm, .ref aP, .ref aW, .int sn, .ref aB, .ref aM])), (aS, .inl (cyI, 30, .inl (nA s))), (aU, .inl (cyI, 300, .inl (nA u)))] (fun r w1 => ∃ (s1 : Nat → Nat), ∃ (n1 : Nat), w1 = [(a0, .inr (8, [.int (nI 0), .ref aX, .int ty, .int sp, .int tk, .int pl, .int va, .int fa, .ref aT, .ref aD, .ref aS, .ref aU, .int (nI n1), .ref aK, .ref aI, .ref aL, .ref aE, .ref aF, .int sm, .ref aP, .ref aW, .int sn, .ref aB, .ref aM])), (aS, .inl (cyI, 30, .inl (nA s1))), (aU, .inl (cyI, 300, .inl (nA u)))] ∧ (r, s1, n1) = unQ s u n) := by
  refine Ki.of (own := RX8) rfl (by decide) (Nat.le_of_ble_eq_true rfl) (fun p0 e0 s0 m0 ar0 be0 me0 cd0 A0 C hr hk hnm hA => ?_)
  refine j_lsub [(0, .ref a0)] [0] rfl ?_
  refine j_aload_n (pc' := 1) C dX8_undo_0 rfl 0 rfl ?_
  refine j_iconst (v := (nI 0)) (pc' := 2) C dX8_undo_1 rfl (by decide +kernel) ?_
  refine j_put (pc' := 5) C [(a0, .inr (8, [.int (nI 0), .ref aX, .int ty, .int sp, .int tk, .int pl, .int va, .int fa, .ref aT, .ref aD, .ref aS, .ref aU, .int (nI n), .ref aK, .ref aI, .ref aL, .ref aE, .ref aF, .int sm, .ref aP, .ref aW, .int sn, .ref aB, .ref aM])), (aS, .inl (cyI, 30, .inl (nA s))), (aU, .inl (cyI, 300, .inl (nA u)))] KX8 0 0 rfl (by decide) fl_X8_59 rfl rfl rfl rfl (Nat.le_of_ble_eq_true rfl) dX8_undo_2 rfl rfl ?_
  refine j_aload_n (pc' := 6) C dX8_undo_5 rfl 0 rfl ?_
  refine j_get (v := .int (nI n)) (pc' := 9) C KX8 0 12 rfl (by decide) fl_X8_127 rfl rfl dX8_undo_6 rfl ?_
  refine j_nz_ne (pc' := 12) C 15 dX8_undo_9 (by decide) rfl (by omega) (fun c9 => ?_) (fun c9 => ?_)
  · refine j_aload_n (pc' := 16) C dX8_undo_15 rfl 0 rfl ?_
    refine j_dup (pc' := 17) C dX8_undo_16 rfl rfl ?_
    refine j_get (v := .int (nI n)) (pc' := 20) C KX8 0 12 rfl (by decide) fl_X8_127 rfl rfl dX8_undo_17 rfl ?_
    refine j_iconst (v := (nI 1)) (pc' := 21) C dX8_undo_20 rfl (by decide +kernel) ?_
    refine j_isub (v := (nI (n - 1))) (pc' := 22) C dX8_undo_21 rfl (pk_sub (by omega)) ?_
    refine j_put (pc' := 25) C [(a0, .inr (8, [.int (nI 0), .ref aX, .int ty, .int sp, .int tk, .int pl, .int va, .int fa, .ref aT, .ref aD, .ref aS, .ref aU, .int (nI (n - 1)), .ref aK, .ref aI, .ref aL, .ref aE, .ref aF, .int sm, .ref aP, .ref aW, .int sn, .ref aB, .ref aM])), (aS, .inl (cyI, 30, .inl (nA s))), (aU, .inl (cyI, 300, .inl (nA u)))] KX8 0 12 rfl (by decide) fl_X8_127 rfl rfl rfl rfl (Nat.le_of_ble_eq_true rfl) dX8_undo_22 rfl rfl ?_
    refine j_iconst (v := (nI 0)) (pc' := 26) C dX8_undo_25 rfl (by decide +kernel) ?_
    refine j_istore_n (pc' := 27) C [(1, .int (nI 0)), (0, .ref a0)] dX8_undo_26 rfl (by decide) rfl ?_
    refine j_lsub [(0, .ref a0), (1, .int (nI 0))] [1, 0] rfl ?_
    refine j_loop2 (fun (i : Nat) (y : Nat → Nat) => [(a0, .inr (8, [.int (nI 0), .ref aX, .int ty, .int sp, .int tk, .int pl, .int va, .int fa, .ref aT, .ref aD, .ref aS, .ref aU, .int (nI (n - 1)), .ref aK, .ref aI, .ref aL, .ref aE, .ref aF, .int sm, .ref aP, .ref aW, .int sn, .ref aB, .ref aM])), (aS, .inl (cyI, 30, .inl (nA y))), (aU, .inl (cyI, 300, .inl (nA u)))]) (fun (i : Nat) (y : Nat → Nat) => [(0, .ref a0), (1, .int (nI i))]) (fun (i : Nat) (y : Nat → Nat) => []) (fun (i : Nat) (y : Nat → Nat) => i ≤ 30 ∧ y = flN s (fun k => u (30 * (n - 1) + k)) 0 i) (fun (i : Nat) (y : Nat → Nat) => 30 - i) ?_ 0 s ?_
    · intro i y hI27 ih27
      obtain ⟨hi, hy⟩ := hI27
      refine j_iload_n (pc' := 28) C dX8_undo_27 rfl 1 rfl ?_
      refine j_bipush (v := (nI 30)) (pc' := 30) C dX8_undo_28 rfl (by decide +kernel) ?_
      refine j_nc_ge (pc' := 33) C 59 dX8_undo_30 (by decide) rfl (by omega) (by omega) (fun c30 => ?_) (fun c30 => ?_)
      · refine j_aload_n (pc' := 60) C dX8_undo_59 rfl 0 rfl ?_
        refine j_get (v := .int (nI (n - 1))) (pc' := 63) C KX8 0 12 rfl (by decide) fl_X8_127 rfl rfl dX8_undo_60 rfl ?_
        exact j_iret C hr hk hA dX8_undo_63 (rfl) (⟨_, _, rfl, by unfold unQ snp; rw [if_neg c9, hy, show i = 30 by omega]⟩)
      · refine j_aload_n (pc' := 34) C dX8_undo_33 rfl 0 rfl ?_
        refine j_get (v := .ref aS) (pc' := 37) C KX8 0 10 rfl (by decide) fl_X8_19 rfl rfl dX8_undo_34 rfl ?_
        refine j_iload_n (pc' := 38) C dX8_undo_37 rfl 1 rfl ?_
        refine j_aload_n (pc' := 39) C dX8_undo_38 rfl 0 rfl ?_
        refine j_get (v := .ref aU) (pc' := 42) C KX8 0 11 rfl (by decide) fl_X8_22 rfl rfl dX8_undo_39 rfl ?_
        refine j_bipush (v := (nI 30)) (pc' := 44) C dX8_undo_42 rfl (by decide +kernel) ?_
        refine j_aload_n (pc' := 45) C dX8_undo_44 rfl 0 rfl ?_
        refine j_get (v := .int (nI (n - 1))) (pc' := 48) C KX8 0 12 rfl (by decide) fl_X8_127 rfl rfl dX8_undo_45 rfl ?_
        refine j_imul (v := (nI (30 * (n - 1)))) (pc' := 49) C dX8_undo_48 rfl (pk_mul 30 (n - 1)) ?_
        refine j_iload_n (pc' := 50) C dX8_undo_49 rfl 1 rfl ?_
        refine j_iadd (v := (nI ((30 * (n - 1)) + i))) (pc' := 51) C dX8_undo_50 rfl (nI_add (30 * (n - 1)) i) ?_
        refine j_nald (pc' := 52) C 2 rfl (by omega) (by decide) dX8_undo_51 rfl ?_
        refine j_nast (pc' := 53) C [(a0, .inr (8, [.int (nI 0), .ref aX, .int ty, .int sp, .int tk, .int pl, .int va, .int fa, .ref aT, .ref aD, .ref aS, .ref aU, .int (nI (n - 1)), .ref aK, .ref aI, .ref aL, .ref aE, .ref aF, .int sm, .ref aP, .ref aW, .int sn, .ref aB, .ref aM])), (aS, .inl (cyI, 30, .inl (nA (uN y i (u ((30 * (n - 1)) + i)))))), (aU, .inl (cyI, 300, .inl (nA u)))] 1 rfl (by omega) (by decide) dX8_undo_52 rfl rfl ?_
        refine j_iinc (v := (nI (i + 1))) (pc' := 56) C [(1, .int (nI (i + 1))), (0, .ref a0)] dX8_undo_53 rfl 1 rfl (inc_n i 1) (by decide) rfl ?_
        refine j_goto C 27 dX8_undo_56 (by decide) ?_
        refine j_lsub [(0, .ref a0), (1, .int (nI (i + 1)))] [1, 0] rfl ?_
        exact ih27 (i + 1) (uN y i (u ((30 * (n - 1)) + i))) (⟨by omega, by rw [hy, ← flN_s]; simp only [Nat.zero_add]⟩) (by omega)
    · exact ⟨Nat.zero_le _, (flN_0 _ _ _).symm⟩
  · refine j_bipush (v := (-2)) (pc' := 14) C dX8_undo_12 rfl (by decide +kernel) ?_
    exact j_iret C hr hk hA dX8_undo_14 (rfl) (⟨s, n, rfl, by unfold unQ; rw [if_pos c9]⟩)
end
section
theorem zz_last_probe : True := trivial
end
