section
-- ===== PART A: goes FIRST, ahead of the names: the tables' words, and 'selects' of the private methods out of them =====
/-- a private method of a class that the tables say can be made, by its rows of tables_1 -/
def lw_okq (q : MethodName × Nat) : Prop := (q.1.cls ≠ "java/lang/invoke/MethodHandle" ∧ q.1.cls ≠ "java/lang/invoke/VarHandle") ∧ Cond.instantiable q.1.cls q.2 ∈ tables_1 ∧ Cond.privateMethod q.1 ∈ tables_1 ∧ Cond.instanceMethod q.1 ∈ tables_1
theorem lw_p0 : lw_okq (⟨"SneakPaths$Reader", "nextToken", "()V"⟩, 6) := ⟨⟨by decide +kernel, by decide +kernel⟩, List.mem_of_getElem? (i := 21) (by decide +kernel), List.mem_of_getElem? (i := 314) (by decide +kernel), List.mem_of_getElem? (i := 315) (by decide +kernel)⟩
theorem lw_p1 : lw_okq (⟨"SneakPaths$Reader", "letterAt", "(I)I"⟩, 6) := ⟨⟨by decide +kernel, by decide +kernel⟩, List.mem_of_getElem? (i := 21) (by decide +kernel), List.mem_of_getElem? (i := 318) (by decide +kernel), List.mem_of_getElem? (i := 319) (by decide +kernel)⟩
theorem lw_p2 : lw_okq (⟨"SneakPaths$Reader", "readItem", "(Z)Z"⟩, 6) := ⟨⟨by decide +kernel, by decide +kernel⟩, List.mem_of_getElem? (i := 21) (by decide +kernel), List.mem_of_getElem? (i := 325) (by decide +kernel), List.mem_of_getElem? (i := 326) (by decide +kernel)⟩
theorem lw_p3 : lw_okq (⟨"SneakPaths$Reader", "readNodes", "()Z"⟩, 6) := ⟨⟨by decide +kernel, by decide +kernel⟩, List.mem_of_getElem? (i := 21) (by decide +kernel), List.mem_of_getElem? (i := 329) (by decide +kernel), List.mem_of_getElem? (i := 330) (by decide +kernel)⟩
theorem lw_p4 : lw_okq (⟨"SneakPaths$Reader", "readNumber", "(II)I"⟩, 6) := ⟨⟨by decide +kernel, by decide +kernel⟩, List.mem_of_getElem? (i := 21) (by decide +kernel), List.mem_of_getElem? (i := 333) (by decide +kernel), List.mem_of_getElem? (i := 334) (by decide +kernel)⟩
theorem lw_p5 : lw_okq (⟨"SneakPaths$Reader", "readSemicolon", "()Z"⟩, 6) := ⟨⟨by decide +kernel, by decide +kernel⟩, List.mem_of_getElem? (i := 21) (by decide +kernel), List.mem_of_getElem? (i := 337) (by decide +kernel), List.mem_of_getElem? (i := 338) (by decide +kernel)⟩
theorem lw_p6 : lw_okq (⟨"SneakPaths$Reader", "readContact", "(I)Z"⟩, 6) := ⟨⟨by decide +kernel, by decide +kernel⟩, List.mem_of_getElem? (i := 21) (by decide +kernel), List.mem_of_getElem? (i := 341) (by decide +kernel), List.mem_of_getElem? (i := 342) (by decide +kernel)⟩
theorem lw_p7 : lw_okq (⟨"SneakPaths$Reader", "readLoad", "()Z"⟩, 6) := ⟨⟨by decide +kernel, by decide +kernel⟩, List.mem_of_getElem? (i := 21) (by decide +kernel), List.mem_of_getElem? (i := 349) (by decide +kernel), List.mem_of_getElem? (i := 350) (by decide +kernel)⟩
theorem lw_p8 : lw_okq (⟨"SneakPaths", "wishWhatIsFed", "()V"⟩, 10) := ⟨⟨by decide +kernel, by decide +kernel⟩, List.mem_of_getElem? (i := 13) (by decide +kernel), List.mem_of_getElem? (i := 369) (by decide +kernel), List.mem_of_getElem? (i := 370) (by decide +kernel)⟩
theorem lw_p9 : lw_okq (⟨"SneakPaths$Ways", "spreadOver", "(I)V"⟩, 7) := ⟨⟨by decide +kernel, by decide +kernel⟩, List.mem_of_getElem? (i := 179) (by decide +kernel), List.mem_of_getElem? (i := 391) (by decide +kernel), List.mem_of_getElem? (i := 392) (by decide +kernel)⟩
theorem lw_p10 : lw_okq (⟨"SneakPaths$Ways", "flow", "(III)V"⟩, 7) := ⟨⟨by decide +kernel, by decide +kernel⟩, List.mem_of_getElem? (i := 179) (by decide +kernel), List.mem_of_getElem? (i := 395) (by decide +kernel), List.mem_of_getElem? (i := 396) (by decide +kernel)⟩
theorem lw_p11 : lw_okq (⟨"SneakPaths", "isContact", "(I)Z"⟩, 10) := ⟨⟨by decide +kernel, by decide +kernel⟩, List.mem_of_getElem? (i := 13) (by decide +kernel), List.mem_of_getElem? (i := 407) (by decide +kernel), List.mem_of_getElem? (i := 408) (by decide +kernel)⟩
theorem lw_p12 : lw_okq (⟨"SneakPaths", "isLoad", "(I)Z"⟩, 10) := ⟨⟨by decide +kernel, by decide +kernel⟩, List.mem_of_getElem? (i := 13) (by decide +kernel), List.mem_of_getElem? (i := 415) (by decide +kernel), List.mem_of_getElem? (i := 416) (by decide +kernel)⟩
theorem lw_p13 : lw_okq (⟨"SneakPaths", "fedNow", "(I)I"⟩, 10) := ⟨⟨by decide +kernel, by decide +kernel⟩, List.mem_of_getElem? (i := 13) (by decide +kernel), List.mem_of_getElem? (i := 419) (by decide +kernel), List.mem_of_getElem? (i := 420) (by decide +kernel)⟩
theorem lw_p14 : lw_okq (⟨"SneakPaths", "howManyPaths", "(I)I"⟩, 10) := ⟨⟨by decide +kernel, by decide +kernel⟩, List.mem_of_getElem? (i := 13) (by decide +kernel), List.mem_of_getElem? (i := 423) (by decide +kernel), List.mem_of_getElem? (i := 424) (by decide +kernel)⟩
theorem lw_p15 : lw_okq (⟨"SneakPaths$Walk", "goOn", "(IIIII)V"⟩, 12) := ⟨⟨by decide +kernel, by decide +kernel⟩, List.mem_of_getElem? (i := 209) (by decide +kernel), List.mem_of_getElem? (i := 432) (by decide +kernel), List.mem_of_getElem? (i := 433) (by decide +kernel)⟩
def lw_privs_1 : List (MethodName × Nat) := [(⟨"SneakPaths$Reader", "nextToken", "()V"⟩, 6), (⟨"SneakPaths$Reader", "letterAt", "(I)I"⟩, 6), (⟨"SneakPaths$Reader", "readItem", "(Z)Z"⟩, 6), (⟨"SneakPaths$Reader", "readNodes", "()Z"⟩, 6), (⟨"SneakPaths$Reader", "readNumber", "(II)I"⟩, 6), (⟨"SneakPaths$Reader", "readSemicolon", "()Z"⟩, 6), (⟨"SneakPaths$Reader", "readContact", "(I)Z"⟩, 6), (⟨"SneakPaths$Reader", "readLoad", "()Z"⟩, 6), (⟨"SneakPaths", "wishWhatIsFed", "()V"⟩, 10), (⟨"SneakPaths$Ways", "spreadOver", "(I)V"⟩, 7), (⟨"SneakPaths$Ways", "flow", "(III)V"⟩, 7), (⟨"SneakPaths", "isContact", "(I)Z"⟩, 10), (⟨"SneakPaths", "isLoad", "(I)Z"⟩, 10), (⟨"SneakPaths", "fedNow", "(I)I"⟩, 10), (⟨"SneakPaths", "howManyPaths", "(I)I"⟩, 10), (⟨"SneakPaths$Walk", "goOn", "(IIIII)V"⟩, 12)]
theorem lw_r1 : ∀ q ∈ lw_privs_1, lw_okq q := List.forall_mem_cons.mpr ⟨lw_p0, List.forall_mem_cons.mpr ⟨lw_p1, List.forall_mem_cons.mpr ⟨lw_p2, List.forall_mem_cons.mpr ⟨lw_p3, List.forall_mem_cons.mpr ⟨lw_p4, List.forall_mem_cons.mpr ⟨lw_p5, List.forall_mem_cons.mpr ⟨lw_p6, List.forall_mem_cons.mpr ⟨lw_p7, List.forall_mem_cons.mpr ⟨lw_p8, List.forall_mem_cons.mpr ⟨lw_p9, List.forall_mem_cons.mpr ⟨lw_p10, List.forall_mem_cons.mpr ⟨lw_p11, List.forall_mem_cons.mpr ⟨lw_p12, List.forall_mem_cons.mpr ⟨lw_p13, List.forall_mem_cons.mpr ⟨lw_p14, List.forall_mem_cons.mpr ⟨lw_p15, fun _ h => absurd h List.not_mem_nil⟩⟩⟩⟩⟩⟩⟩⟩⟩⟩⟩⟩⟩⟩⟩⟩
theorem lw_p16 : lw_okq (⟨"SneakPaths$Walk", "arrive", "(III)V"⟩, 12) := ⟨⟨by decide +kernel, by decide +kernel⟩, List.mem_of_getElem? (i := 209) (by decide +kernel), List.mem_of_getElem? (i := 436) (by decide +kernel), List.mem_of_getElem? (i := 437) (by decide +kernel)⟩
theorem lw_p17 : lw_okq (⟨"SneakPaths$History", "dropOldest", "()V"⟩, 5) := ⟨⟨by decide +kernel, by decide +kernel⟩, List.mem_of_getElem? (i := 136) (by decide +kernel), List.mem_of_getElem? (i := 454) (by decide +kernel), List.mem_of_getElem? (i := 455) (by decide +kernel)⟩
theorem lw_p18 : lw_okq (⟨"SneakPaths", "noteMissing", "()V"⟩, 10) := ⟨⟨by decide +kernel, by decide +kernel⟩, List.mem_of_getElem? (i := 13) (by decide +kernel), List.mem_of_getElem? (i := 509) (by decide +kernel), List.mem_of_getElem? (i := 510) (by decide +kernel)⟩
theorem lw_p19 : lw_okq (⟨"SneakPaths", "isEnough", "(III)Z"⟩, 10) := ⟨⟨by decide +kernel, by decide +kernel⟩, List.mem_of_getElem? (i := 13) (by decide +kernel), List.mem_of_getElem? (i := 513) (by decide +kernel), List.mem_of_getElem? (i := 514) (by decide +kernel)⟩
theorem lw_p20 : lw_okq (⟨"SneakPaths", "loadsThatSneak", "()I"⟩, 10) := ⟨⟨by decide +kernel, by decide +kernel⟩, List.mem_of_getElem? (i := 13) (by decide +kernel), List.mem_of_getElem? (i := 576) (by decide +kernel), List.mem_of_getElem? (i := 577) (by decide +kernel)⟩
theorem lw_p21 : lw_okq (⟨"SneakPaths", "loadsThatMiss", "()I"⟩, 10) := ⟨⟨by decide +kernel, by decide +kernel⟩, List.mem_of_getElem? (i := 13) (by decide +kernel), List.mem_of_getElem? (i := 580) (by decide +kernel), List.mem_of_getElem? (i := 581) (by decide +kernel)⟩
theorem lw_p22 : lw_okq (⟨"SneakPathsModel", "begins", "()V"⟩, 24) := ⟨⟨by decide +kernel, by decide +kernel⟩, List.mem_of_getElem? (i := 584) (by decide +kernel), List.mem_of_getElem? (i := 590) (by decide +kernel), List.mem_of_getElem? (i := 591) (by decide +kernel)⟩
theorem lw_p23 : lw_okq (⟨"SneakPathsModel", "settles", "()V"⟩, 24) := ⟨⟨by decide +kernel, by decide +kernel⟩, List.mem_of_getElem? (i := 584) (by decide +kernel), List.mem_of_getElem? (i := 594) (by decide +kernel), List.mem_of_getElem? (i := 595) (by decide +kernel)⟩
theorem lw_p24 : lw_okq (⟨"SneakPathsModel", "fedIn", "(I)I"⟩, 24) := ⟨⟨by decide +kernel, by decide +kernel⟩, List.mem_of_getElem? (i := 584) (by decide +kernel), List.mem_of_getElem? (i := 598) (by decide +kernel), List.mem_of_getElem? (i := 599) (by decide +kernel)⟩
theorem lw_p25 : lw_okq (⟨"SneakPathsModel", "isFed", "(III)Z"⟩, 24) := ⟨⟨by decide +kernel, by decide +kernel⟩, List.mem_of_getElem? (i := 584) (by decide +kernel), List.mem_of_getElem? (i := 602) (by decide +kernel), List.mem_of_getElem? (i := 603) (by decide +kernel)⟩
theorem lw_p26 : lw_okq (⟨"SneakPathsModel", "live", "(II)I"⟩, 24) := ⟨⟨by decide +kernel, by decide +kernel⟩, List.mem_of_getElem? (i := 584) (by decide +kernel), List.mem_of_getElem? (i := 606) (by decide +kernel), List.mem_of_getElem? (i := 607) (by decide +kernel)⟩
theorem lw_p27 : lw_okq (⟨"SneakPathsModel", "isShut", "(II)Z"⟩, 24) := ⟨⟨by decide +kernel, by decide +kernel⟩, List.mem_of_getElem? (i := 584) (by decide +kernel), List.mem_of_getElem? (i := 613) (by decide +kernel), List.mem_of_getElem? (i := 614) (by decide +kernel)⟩
theorem lw_p28 : lw_okq (⟨"SneakPathsModel", "isWay", "(IZ)Z"⟩, 24) := ⟨⟨by decide +kernel, by decide +kernel⟩, List.mem_of_getElem? (i := 584) (by decide +kernel), List.mem_of_getElem? (i := 617) (by decide +kernel), List.mem_of_getElem? (i := 618) (by decide +kernel)⟩
theorem lw_p29 : lw_okq (⟨"SneakPathsModel", "advances", "()V"⟩, 24) := ⟨⟨by decide +kernel, by decide +kernel⟩, List.mem_of_getElem? (i := 584) (by decide +kernel), List.mem_of_getElem? (i := 709) (by decide +kernel), List.mem_of_getElem? (i := 710) (by decide +kernel)⟩
theorem lw_p30 : lw_okq (⟨"SneakPathsModel", "letterAt", "(I)I"⟩, 24) := ⟨⟨by decide +kernel, by decide +kernel⟩, List.mem_of_getElem? (i := 584) (by decide +kernel), List.mem_of_getElem? (i := 713) (by decide +kernel), List.mem_of_getElem? (i := 714) (by decide +kernel)⟩
theorem lw_p31 : lw_okq (⟨"SneakPathsModel", "isWell", "()Z"⟩, 24) := ⟨⟨by decide +kernel, by decide +kernel⟩, List.mem_of_getElem? (i := 584) (by decide +kernel), List.mem_of_getElem? (i := 720) (by decide +kernel), List.mem_of_getElem? (i := 721) (by decide +kernel)⟩
def lw_privs_2 : List (MethodName × Nat) := [(⟨"SneakPaths$Walk", "arrive", "(III)V"⟩, 12), (⟨"SneakPaths$History", "dropOldest", "()V"⟩, 5), (⟨"SneakPaths", "noteMissing", "()V"⟩, 10), (⟨"SneakPaths", "isEnough", "(III)Z"⟩, 10), (⟨"SneakPaths", "loadsThatSneak", "()I"⟩, 10), (⟨"SneakPaths", "loadsThatMiss", "()I"⟩, 10), (⟨"SneakPathsModel", "begins", "()V"⟩, 24), (⟨"SneakPathsModel", "settles", "()V"⟩, 24), (⟨"SneakPathsModel", "fedIn", "(I)I"⟩, 24), (⟨"SneakPathsModel", "isFed", "(III)Z"⟩, 24), (⟨"SneakPathsModel", "live", "(II)I"⟩, 24), (⟨"SneakPathsModel", "isShut", "(II)Z"⟩, 24), (⟨"SneakPathsModel", "isWay", "(IZ)Z"⟩, 24), (⟨"SneakPathsModel", "advances", "()V"⟩, 24), (⟨"SneakPathsModel", "letterAt", "(I)I"⟩, 24), (⟨"SneakPathsModel", "isWell", "()Z"⟩, 24)]
theorem lw_r2 : ∀ q ∈ lw_privs_2, lw_okq q := List.forall_mem_cons.mpr ⟨lw_p16, List.forall_mem_cons.mpr ⟨lw_p17, List.forall_mem_cons.mpr ⟨lw_p18, List.forall_mem_cons.mpr ⟨lw_p19, List.forall_mem_cons.mpr ⟨lw_p20, List.forall_mem_cons.mpr ⟨lw_p21, List.forall_mem_cons.mpr ⟨lw_p22, List.forall_mem_cons.mpr ⟨lw_p23, List.forall_mem_cons.mpr ⟨lw_p24, List.forall_mem_cons.mpr ⟨lw_p25, List.forall_mem_cons.mpr ⟨lw_p26, List.forall_mem_cons.mpr ⟨lw_p27, List.forall_mem_cons.mpr ⟨lw_p28, List.forall_mem_cons.mpr ⟨lw_p29, List.forall_mem_cons.mpr ⟨lw_p30, List.forall_mem_cons.mpr ⟨lw_p31, fun _ h => absurd h List.not_mem_nil⟩⟩⟩⟩⟩⟩⟩⟩⟩⟩⟩⟩⟩⟩⟩⟩
theorem lw_p32 : lw_okq (⟨"SneakPathsModel", "mayBegin", "(I)Z"⟩, 24) := ⟨⟨by decide +kernel, by decide +kernel⟩, List.mem_of_getElem? (i := 584) (by decide +kernel), List.mem_of_getElem? (i := 724) (by decide +kernel), List.mem_of_getElem? (i := 725) (by decide +kernel)⟩
theorem lw_p33 : lw_okq (⟨"SneakPathsModel", "takes", "(Z)I"⟩, 24) := ⟨⟨by decide +kernel, by decide +kernel⟩, List.mem_of_getElem? (i := 584) (by decide +kernel), List.mem_of_getElem? (i := 728) (by decide +kernel), List.mem_of_getElem? (i := 729) (by decide +kernel)⟩
theorem lw_p34 : lw_okq (⟨"SneakPathsModel", "readsItem", "(I)V"⟩, 24) := ⟨⟨by decide +kernel, by decide +kernel⟩, List.mem_of_getElem? (i := 584) (by decide +kernel), List.mem_of_getElem? (i := 732) (by decide +kernel), List.mem_of_getElem? (i := 733) (by decide +kernel)⟩
theorem lw_p35 : lw_okq (⟨"SneakPathsModel", "isNumber", "(II)Z"⟩, 24) := ⟨⟨by decide +kernel, by decide +kernel⟩, List.mem_of_getElem? (i := 584) (by decide +kernel), List.mem_of_getElem? (i := 736) (by decide +kernel), List.mem_of_getElem? (i := 737) (by decide +kernel)⟩
theorem lw_p36 : lw_okq (⟨"SneakPathsModel", "isFreeNode", "(I)Z"⟩, 24) := ⟨⟨by decide +kernel, by decide +kernel⟩, List.mem_of_getElem? (i := 584) (by decide +kernel), List.mem_of_getElem? (i := 740) (by decide +kernel), List.mem_of_getElem? (i := 741) (by decide +kernel)⟩
theorem lw_p37 : lw_okq (⟨"SneakPathsModel", "readsContact", "(I)V"⟩, 24) := ⟨⟨by decide +kernel, by decide +kernel⟩, List.mem_of_getElem? (i := 584) (by decide +kernel), List.mem_of_getElem? (i := 744) (by decide +kernel), List.mem_of_getElem? (i := 745) (by decide +kernel)⟩
theorem lw_p38 : lw_okq (⟨"SneakPathsModel", "isContact", "(I)Z"⟩, 24) := ⟨⟨by decide +kernel, by decide +kernel⟩, List.mem_of_getElem? (i := 584) (by decide +kernel), List.mem_of_getElem? (i := 752) (by decide +kernel), List.mem_of_getElem? (i := 753) (by decide +kernel)⟩
theorem lw_p39 : lw_okq (⟨"SneakPathsModel", "isLoad", "(I)Z"⟩, 24) := ⟨⟨by decide +kernel, by decide +kernel⟩, List.mem_of_getElem? (i := 584) (by decide +kernel), List.mem_of_getElem? (i := 760) (by decide +kernel), List.mem_of_getElem? (i := 761) (by decide +kernel)⟩
theorem lw_p40 : lw_okq (⟨"SneakPathsModel", "pathMany", "(I)I"⟩, 24) := ⟨⟨by decide +kernel, by decide +kernel⟩, List.mem_of_getElem? (i := 584) (by decide +kernel), List.mem_of_getElem? (i := 764) (by decide +kernel), List.mem_of_getElem? (i := 765) (by decide +kernel)⟩
theorem lw_p41 : lw_okq (⟨"SneakPathsModel", "beginsPath", "()V"⟩, 24) := ⟨⟨by decide +kernel, by decide +kernel⟩, List.mem_of_getElem? (i := 584) (by decide +kernel), List.mem_of_getElem? (i := 768) (by decide +kernel), List.mem_of_getElem? (i := 769) (by decide +kernel)⟩
theorem lw_p42 : lw_okq (⟨"SneakPathsModel", "nextPath", "(I)Z"⟩, 24) := ⟨⟨by decide +kernel, by decide +kernel⟩, List.mem_of_getElem? (i := 584) (by decide +kernel), List.mem_of_getElem? (i := 772) (by decide +kernel), List.mem_of_getElem? (i := 773) (by decide +kernel)⟩
theorem lw_p43 : lw_okq (⟨"SneakPathsModel", "toBy", "(II)I"⟩, 24) := ⟨⟨by decide +kernel, by decide +kernel⟩, List.mem_of_getElem? (i := 584) (by decide +kernel), List.mem_of_getElem? (i := 776) (by decide +kernel), List.mem_of_getElem? (i := 777) (by decide +kernel)⟩
theorem lw_p44 : lw_okq (⟨"SneakPathsModel", "isOnPath", "(I)Z"⟩, 24) := ⟨⟨by decide +kernel, by decide +kernel⟩, List.mem_of_getElem? (i := 584) (by decide +kernel), List.mem_of_getElem? (i := 780) (by decide +kernel), List.mem_of_getElem? (i := 781) (by decide +kernel)⟩
theorem lw_p45 : lw_okq (⟨"SneakPathsModel", "notes", "()V"⟩, 24) := ⟨⟨by decide +kernel, by decide +kernel⟩, List.mem_of_getElem? (i := 584) (by decide +kernel), List.mem_of_getElem? (i := 789) (by decide +kernel), List.mem_of_getElem? (i := 790) (by decide +kernel)⟩
theorem lw_p46 : lw_okq (⟨"SneakPathsModel", "shutIn", "()I"⟩, 24) := ⟨⟨by decide +kernel, by decide +kernel⟩, List.mem_of_getElem? (i := 584) (by decide +kernel), List.mem_of_getElem? (i := 809) (by decide +kernel), List.mem_of_getElem? (i := 810) (by decide +kernel)⟩
theorem lw_p47 : lw_okq (⟨"SneakPathsModel", "isEnough", "([I)Z"⟩, 24) := ⟨⟨by decide +kernel, by decide +kernel⟩, List.mem_of_getElem? (i := 584) (by decide +kernel), List.mem_of_getElem? (i := 831) (by decide +kernel), List.mem_of_getElem? (i := 832) (by decide +kernel)⟩
def lw_privs_3 : List (MethodName × Nat) := [(⟨"SneakPathsModel", "mayBegin", "(I)Z"⟩, 24), (⟨"SneakPathsModel", "takes", "(Z)I"⟩, 24), (⟨"SneakPathsModel", "readsItem", "(I)V"⟩, 24), (⟨"SneakPathsModel", "isNumber", "(II)Z"⟩, 24), (⟨"SneakPathsModel", "isFreeNode", "(I)Z"⟩, 24), (⟨"SneakPathsModel", "readsContact", "(I)V"⟩, 24), (⟨"SneakPathsModel", "isContact", "(I)Z"⟩, 24), (⟨"SneakPathsModel", "isLoad", "(I)Z"⟩, 24), (⟨"SneakPathsModel", "pathMany", "(I)I"⟩, 24), (⟨"SneakPathsModel", "beginsPath", "()V"⟩, 24), (⟨"SneakPathsModel", "nextPath", "(I)Z"⟩, 24), (⟨"SneakPathsModel", "toBy", "(II)I"⟩, 24), (⟨"SneakPathsModel", "isOnPath", "(I)Z"⟩, 24), (⟨"SneakPathsModel", "notes", "()V"⟩, 24), (⟨"SneakPathsModel", "shutIn", "()I"⟩, 24), (⟨"SneakPathsModel", "isEnough", "([I)Z"⟩, 24)]
theorem lw_r3 : ∀ q ∈ lw_privs_3, lw_okq q := List.forall_mem_cons.mpr ⟨lw_p32, List.forall_mem_cons.mpr ⟨lw_p33, List.forall_mem_cons.mpr ⟨lw_p34, List.forall_mem_cons.mpr ⟨lw_p35, List.forall_mem_cons.mpr ⟨lw_p36, List.forall_mem_cons.mpr ⟨lw_p37, List.forall_mem_cons.mpr ⟨lw_p38, List.forall_mem_cons.mpr ⟨lw_p39, List.forall_mem_cons.mpr ⟨lw_p40, List.forall_mem_cons.mpr ⟨lw_p41, List.forall_mem_cons.mpr ⟨lw_p42, List.forall_mem_cons.mpr ⟨lw_p43, List.forall_mem_cons.mpr ⟨lw_p44, List.forall_mem_cons.mpr ⟨lw_p45, List.forall_mem_cons.mpr ⟨lw_p46, List.forall_mem_cons.mpr ⟨lw_p47, fun _ h => absurd h List.not_mem_nil⟩⟩⟩⟩⟩⟩⟩⟩⟩⟩⟩⟩⟩⟩⟩⟩
def lw_privs : List (MethodName × Nat) := lw_privs_1 ++ (lw_privs_2 ++ (lw_privs_3))
def lw_tbl : List Cond := k2_sels lw_privs ++ tables_1
theorem lw_privs_ok : ∀ q ∈ lw_privs, lw_okq q := by
  show ∀ q ∈ lw_privs_1 ++ (lw_privs_2 ++ (lw_privs_3)), lw_okq q
  exact List.forall_mem_append.mpr ⟨lw_r1, List.forall_mem_append.mpr ⟨lw_r2, lw_r3⟩⟩
end
section
/-! ===== BEGIN words of one list among another's, by their places ===== -/
theorem goodIn_r {big : List Cond} (ws : List Cond) (ps : List Nat) (hp : ws = ps.filterMap (fun i => big[i]?)) (h : ws.all goodWord = true) : GoodIn big ws := by
  intro w hw
  have h1 := List.all_eq_true.mp h w hw
  rw [hp] at hw
  obtain ⟨i, -, hi⟩ := List.mem_filterMap.mp hw
  have hm : w ∈ big := by first | exact List.mem_of_getElem? hi | exact List.getElem?_mem hi
  exact ⟨hm, good_of_word h1⟩
theorem goodIn_app {big a b : List Cond} (ha : GoodIn big a) (hb : GoodIn big b) : GoodIn big (a ++ b) := fun w h => (List.mem_append.mp h).elim (ha w) (hb w)
theorem goodIn_ca {big a b : List Cond} {c : Cond} (ha : GoodIn big (c :: a)) (hb : GoodIn big b) : GoodIn big (c :: (a ++ b)) := fun w h => (List.mem_cons.mp h).elim (fun e => ha w (List.mem_cons.mpr (Or.inl e))) (fun h => (List.mem_append.mp h).elim (fun h => ha w (List.mem_cons.mpr (Or.inr h))) (hb w))
theorem goodIn_sub {big ws : List Cond} (hm : ∀ w ∈ ws, w ∈ big) (h : ws.all goodWord = true) : GoodIn big ws := fun w hw => ⟨hm w hw, good_of_word (List.all_eq_true.mp h w hw)⟩
/-! ===== END ===== -/

/-! ===== BEGIN printed: names, fields, word lists, decode rows ===== -/
def RX0 : String := "SneakPaths$History"
def TX0 : u_T := fun k => match k with
  | 0 => ("SneakPaths$History", "known", "I", false)
  | 1 => ("SneakPaths$History", "sort", "[I", true)
  | 2 => ("SneakPaths$History", "which", "[I", true)
  | 3 => ("SneakPaths$History", "was", "[I", true)
  | _ => ("SneakPaths$History", "wasBy", "[I", true)
def tyX0 : Nat → FieldType := fun k => match k with
  | 0 => .int
  | 1 => .array .int
  | 2 => .array .int
  | 3 => .array .int
  | _ => .array .int
abbrev wsX00 : List Cond := u_ws RX0 TX0 5
theorem nmX0 : ∀ a, a < 5 → ∀ b, b < 5 → a ≠ b → (TX0 a).2.1 ≠ (TX0 b).2.1 := by decide +kernel
theorem tyX0_ok : ∀ k, k < 5 → parseFieldDescriptor (TX0 k).2.2.1 = some (tyX0 k) := by decide +kernel
abbrev cX0_init : ByteArray := prog_2_method_1_code
def yX0_init : MethodName := ⟨RX0, "<init>", "()V"⟩
abbrev cX0_note : ByteArray := prog_2_method_2_code
def yX0_note : MethodName := ⟨RX0, "note", "(IIII)V"⟩
abbrev cX0_takeBack : ByteArray := prog_2_method_3_code
def yX0_takeBack : MethodName := ⟨RX0, "takeBack", "(LSneakPaths$Setting;)V"⟩
abbrev cX0_dropOldest : ByteArray := prog_2_method_4_code
def yX0_dropOldest : MethodName := ⟨RX0, "dropOldest", "()V"⟩
def RX1 : String := "SneakPaths$Net"
def TX1 : u_T := fun k => match k with
  | 0 => ("SneakPaths$Net", "nodes", "I", false)
  | 1 => ("SneakPaths$Net", "contacts", "I", false)
  | 2 => ("SneakPaths$Net", "loads", "I", false)
  | 3 => ("SneakPaths$Net", "kind", "[I", true)
  | 4 => ("SneakPaths$Net", "first", "[I", true)
  | 5 => ("SneakPaths$Net", "second", "[I", true)
  | 6 => ("SneakPaths$Net", "by", "[I", true)
  | _ => ("SneakPaths$Net", "loadNode", "[I", true)
def tyX1 : Nat → FieldType := fun k => match k with
  | 0 => .int
  | 1 => .int
  | 2 => .int
  | 3 => .array .int
  | 4 => .array .int
  | 5 => .array .int
  | 6 => .array .int
  | _ => .array .int
abbrev wsX10 : List Cond := u_ws RX1 TX1 8
theorem nmX1 : ∀ a, a < 8 → ∀ b, b < 8 → a ≠ b → (TX1 a).2.1 ≠ (TX1 b).2.1 := by decide +kernel
theorem tyX1_ok : ∀ k, k < 8 → parseFieldDescriptor (TX1 k).2.2.1 = some (tyX1 k) := by decide +kernel
abbrev cX1_init : ByteArray := prog_3_method_1_code
def yX1_init : MethodName := ⟨RX1, "<init>", "()V"⟩
abbrev cX1_reset : ByteArray := prog_3_method_2_code
def yX1_reset : MethodName := ⟨RX1, "reset", "()V"⟩
abbrev cX1_addContact : ByteArray := prog_3_method_3_code
def yX1_addContact : MethodName := ⟨RX1, "addContact", "(IIII)V"⟩
abbrev cX1_addLoad : ByteArray := prog_3_method_4_code
def yX1_addLoad : MethodName := ⟨RX1, "addLoad", "(I)V"⟩
abbrev cX1_hasLoadAt : ByteArray := prog_3_method_5_code
def yX1_hasLoadAt : MethodName := ⟨RX1, "hasLoadAt", "(I)Z"⟩
abbrev cX1_takeFrom : ByteArray := prog_3_method_6_code
def yX1_takeFrom : MethodName := ⟨RX1, "takeFrom", "(LSneakPaths$Net;)V"⟩
def RX2 : String := "SneakPaths$Reader"
def TX2 : u_T := fun k => match k with
  | 0 => ("SneakPaths$Reader", "draft", "LSneakPaths$Net;", true)
  | 1 => ("SneakPaths$Reader", "length", "I", false)
  | 2 => ("SneakPaths$Reader", "letters", "[I", true)
  | 3 => ("SneakPaths$Reader", "at", "I", false)
  | 4 => ("SneakPaths$Reader", "token", "I", false)
  | _ => ("SneakPaths$Reader", "place", "I", false)
def tyX2 : Nat → FieldType := fun k => match k with
  | 0 => .object "SneakPaths$Net"
  | 1 => .int
  | 2 => .array .int
  | 3 => .int
  | 4 => .int
  | _ => .int
abbrev wsX20 : List Cond := u_ws RX2 TX2 6
theorem nmX2 : ∀ a, a < 6 → ∀ b, b < 6 → a ≠ b → (TX2 a).2.1 ≠ (TX2 b).2.1 := by decide +kernel
theorem tyX2_ok : ∀ k, k < 6 → parseFieldDescriptor (TX2 k).2.2.1 = some (tyX2 k) := by decide +kernel
abbrev cX2_init : ByteArray := prog_4_method_1_code
def yX2_init : MethodName := ⟨RX2, "<init>", "()V"⟩
abbrev cX2_append : ByteArray := prog_4_method_2_code
def yX2_append : MethodName := ⟨RX2, "append", "(I)Z"⟩
abbrev cX2_read : ByteArray := prog_4_method_3_code
def yX2_read : MethodName := ⟨RX2, "read", "()I"⟩
abbrev cX2_readItem : ByteArray := prog_4_method_4_code
def yX2_readItem : MethodName := ⟨RX2, "readItem", "(Z)Z"⟩
abbrev cX2_readNodes : ByteArray := prog_4_method_5_code
def yX2_readNodes : MethodName := ⟨RX2, "readNodes", "()Z"⟩
abbrev cX2_readContact : ByteArray := prog_4_method_6_code
def yX2_readContact : MethodName := ⟨RX2, "readContact", "(I)Z"⟩
abbrev cX2_readLoad : ByteArray := prog_4_method_7_code
def yX2_readLoad : MethodName := ⟨RX2, "readLoad", "()Z"⟩
abbrev cX2_readNumber : ByteArray := prog_4_method_8_code
def yX2_readNumber : MethodName := ⟨RX2, "readNumber", "(II)I"⟩
abbrev cX2_readSemicolon : ByteArray := prog_4_method_9_code
def yX2_readSemicolon : MethodName := ⟨RX2, "readSemicolon", "()Z"⟩
abbrev cX2_nextToken : ByteArray := prog_4_method_10_code
def yX2_nextToken : MethodName := ⟨RX2, "nextToken", "()V"⟩
abbrev cX2_letterAt : ByteArray := prog_4_method_11_code
def yX2_letterAt : MethodName := ⟨RX2, "letterAt", "(I)I"⟩
abbrev cX2_isDigit : ByteArray := prog_4_method_12_code
def yX2_isDigit : MethodName := ⟨RX2, "isDigit", "(I)Z"⟩
def RX3 : String := "SneakPaths$Seen"
def TX3 : u_T := fun k => match k with
  | 0 => ("SneakPaths$Seen", "size", "I", false)
  | 1 => ("SneakPaths$Seen", "which", "[I", true)
  | 2 => ("SneakPaths$Seen", "state", "[I", true)
  | _ => ("SneakPaths$Seen", "fed", "[I", true)
def tyX3 : Nat → FieldType := fun k => match k with
  | 0 => .int
  | 1 => .array .int
  | 2 => .array .int
  | _ => .array .int
abbrev wsX30 : List Cond := u_ws RX3 TX3 4
theorem nmX3 : ∀ a, a < 4 → ∀ b, b < 4 → a ≠ b → (TX3 a).2.1 ≠ (TX3 b).2.1 := by decide +kernel
theorem tyX3_ok : ∀ k, k < 4 → parseFieldDescriptor (TX3 k).2.2.1 = some (tyX3 k) := by decide +kernel
abbrev cX3_init : ByteArray := prog_5_method_1_code
def yX3_init : MethodName := ⟨RX3, "<init>", "()V"⟩
abbrev cX3_append : ByteArray := prog_5_method_2_code
def yX3_append : MethodName := ⟨RX3, "append", "(III)Z"⟩
abbrev cX3_agrees : ByteArray := prog_5_method_3_code
def yX3_agrees : MethodName := ⟨RX3, "agrees", "(LSneakPaths$Ways;)Z"⟩
def RX4 : String := "SneakPaths$Setting"
def TX4 : u_T := fun k => match k with
  | 0 => ("SneakPaths$Setting", "wished", "[I", true)
  | 1 => ("SneakPaths$Setting", "cure", "[I", true)
  | 2 => ("SneakPaths$Setting", "cureBy", "[I", true)
  | _ => ("SneakPaths$Setting", "stick", "[I", true)
def tyX4 : Nat → FieldType := fun k => match k with
  | 0 => .array .int
  | 1 => .array .int
  | 2 => .array .int
  | _ => .array .int
abbrev wsX40 : List Cond := u_ws RX4 TX4 4
theorem nmX4 : ∀ a, a < 4 → ∀ b, b < 4 → a ≠ b → (TX4 a).2.1 ≠ (TX4 b).2.1 := by decide +kernel
theorem tyX4_ok : ∀ k, k < 4 → parseFieldDescriptor (TX4 k).2.2.1 = some (tyX4 k) := by decide +kernel
abbrev cX4_init : ByteArray := prog_6_method_1_code
def yX4_init : MethodName := ⟨RX4, "<init>", "()V"⟩
abbrev cX4_reset : ByteArray := prog_6_method_2_code
def yX4_reset : MethodName := ⟨RX4, "reset", "()V"⟩
abbrev cX4_takeFrom : ByteArray := prog_6_method_3_code
def yX4_takeFrom : MethodName := ⟨RX4, "takeFrom", "(LSneakPaths$Setting;)V"⟩
def RX5 : String := "SneakPaths$Walk"
def TX5 : u_T := fun k => match k with
  | 0 => ("SneakPaths$Walk", "found", "I", false)
  | 1 => ("SneakPaths$Walk", "bits", "I", false)
  | 2 => ("SneakPaths$Walk", "length", "I", false)
  | 3 => ("SneakPaths$Walk", "shut", "I", false)
  | 4 => ("SneakPaths$Walk", "fewest", "I", false)
  | 5 => ("SneakPaths$Walk", "shortestTrail", "[I", true)
  | 6 => ("SneakPaths$Walk", "plan", "LSneakPaths$Net;", true)
  | 7 => ("SneakPaths$Walk", "ways", "LSneakPaths$Ways;", true)
  | 8 => ("SneakPaths$Walk", "trail", "[I", true)
  | 9 => ("SneakPaths$Walk", "goal", "I", false)
  | 10 => ("SneakPaths$Walk", "wantedPath", "I", false)
  | _ => ("SneakPaths$Walk", "wantedState", "I", false)
def tyX5 : Nat → FieldType := fun k => match k with
  | 0 => .int
  | 1 => .int
  | 2 => .int
  | 3 => .int
  | 4 => .int
  | 5 => .array .int
  | 6 => .object "SneakPaths$Net"
  | 7 => .object "SneakPaths$Ways"
  | 8 => .array .int
  | 9 => .int
  | 10 => .int
  | _ => .int
abbrev wsX50 : List Cond := u_ws RX5 TX5 12
theorem nmX5 : ∀ a, a < 12 → ∀ b, b < 12 → a ≠ b → (TX5 a).2.1 ≠ (TX5 b).2.1 := by decide +kernel
theorem tyX5_ok : ∀ k, k < 12 → parseFieldDescriptor (TX5 k).2.2.1 = some (tyX5 k) := by decide +kernel
abbrev cX5_init : ByteArray := prog_7_method_1_code
def yX5_init : MethodName := ⟨RX5, "<init>", "(LSneakPaths$Net;LSneakPaths$Ways;)V"⟩
abbrev cX5_run : ByteArray := prog_7_method_2_code
def yX5_run : MethodName := ⟨RX5, "run", "(III)V"⟩
abbrev cX5_goOn : ByteArray := prog_7_method_3_code
def yX5_goOn : MethodName := ⟨RX5, "goOn", "(IIIII)V"⟩
abbrev cX5_arrive : ByteArray := prog_7_method_4_code
def yX5_arrive : MethodName := ⟨RX5, "arrive", "(III)V"⟩
def RX6 : String := "SneakPaths$Ways"
def TX6 : u_T := fun k => match k with
  | 0 => ("SneakPaths$Ways", "shut", "[I", true)
  | 1 => ("SneakPaths$Ways", "plan", "LSneakPaths$Net;", true)
  | 2 => ("SneakPaths$Ways", "now", "LSneakPaths$Setting;", true)
  | 3 => ("SneakPaths$Ways", "forth", "[Z", true)
  | 4 => ("SneakPaths$Ways", "back", "[Z", true)
  | 5 => ("SneakPaths$Ways", "reached", "[I", true)
  | _ => ("SneakPaths$Ways", "grew", "Z", false)
def tyX6 : Nat → FieldType := fun k => match k with
  | 0 => .array .int
  | 1 => .object "SneakPaths$Net"
  | 2 => .object "SneakPaths$Setting"
  | 3 => .array .boolean
  | 4 => .array .boolean
  | 5 => .array .int
  | _ => .boolean
abbrev wsX60 : List Cond := u_ws RX6 TX6 7
theorem nmX6 : ∀ a, a < 7 → ∀ b, b < 7 → a ≠ b → (TX6 a).2.1 ≠ (TX6 b).2.1 := by decide +kernel
theorem tyX6_ok : ∀ k, k < 7 → parseFieldDescriptor (TX6 k).2.2.1 = some (tyX6 k) := by decide +kernel
abbrev cX6_init : ByteArray := prog_8_method_1_code
def yX6_init : MethodName := ⟨RX6, "<init>", "(LSneakPaths$Net;LSneakPaths$Setting;)V"⟩
abbrev cX6_layAll : ByteArray := prog_8_method_2_code
def yX6_layAll : MethodName := ⟨RX6, "layAll", "()V"⟩
abbrev cX6_layOne : ByteArray := prog_8_method_3_code
def yX6_layOne : MethodName := ⟨RX6, "layOne", "(IIII)V"⟩
abbrev cX6_shutBy : ByteArray := prog_8_method_4_code
def yX6_shutBy : MethodName := ⟨RX6, "shutBy", "(II)I"⟩
abbrev cX6_spread : ByteArray := prog_8_method_5_code
def yX6_spread : MethodName := ⟨RX6, "spread", "(I)V"⟩
abbrev cX6_spreadOver : ByteArray := prog_8_method_6_code
def yX6_spreadOver : MethodName := ⟨RX6, "spreadOver", "(I)V"⟩
abbrev cX6_flow : ByteArray := prog_8_method_7_code
def yX6_flow : MethodName := ⟨RX6, "flow", "(III)V"⟩
abbrev cX6_fed : ByteArray := prog_8_method_8_code
def yX6_fed : MethodName := ⟨RX6, "fed", "(I)I"⟩
abbrev cX6_feedsWithout : ByteArray := prog_8_method_9_code
def yX6_feedsWithout : MethodName := ⟨RX6, "feedsWithout", "(III)Z"⟩
abbrev cX6_nodeBehind : ByteArray := prog_8_method_10_code
def yX6_nodeBehind : MethodName := ⟨RX6, "nodeBehind", "(II)I"⟩
def RX7 : String := "SneakPaths"
def TX7 : u_T := fun k => match k with
  | 0 => ("SneakPaths", "reader", "LSneakPaths$Reader;", true)
  | 1 => ("SneakPaths", "plan", "LSneakPaths$Net;", true)
  | 2 => ("SneakPaths", "now", "LSneakPaths$Setting;", true)
  | 3 => ("SneakPaths", "history", "LSneakPaths$History;", true)
  | 4 => ("SneakPaths", "seen", "LSneakPaths$Seen;", true)
  | 5 => ("SneakPaths", "ways", "LSneakPaths$Ways;", true)
  | 6 => ("SneakPaths", "walk", "LSneakPaths$Walk;", true)
  | 7 => ("SneakPaths", "images", "[LSneakPaths$Setting;", true)
  | 8 => ("SneakPaths", "kept", "[Z", true)
  | _ => ("SneakPaths", "missingBefore", "[I", true)
def tyX7 : Nat → FieldType := fun k => match k with
  | 0 => .object "SneakPaths$Reader"
  | 1 => .object "SneakPaths$Net"
  | 2 => .object "SneakPaths$Setting"
  | 3 => .object "SneakPaths$History"
  | 4 => .object "SneakPaths$Seen"
  | 5 => .object "SneakPaths$Ways"
  | 6 => .object "SneakPaths$Walk"
  | 7 => .array (.object "SneakPaths$Setting")
  | 8 => .array .boolean
  | _ => .array .int
abbrev wsX70 : List Cond := u_ws RX7 TX7 10
theorem nmX7 : ∀ a, a < 10 → ∀ b, b < 10 → a ≠ b → (TX7 a).2.1 ≠ (TX7 b).2.1 := by decide +kernel
theorem tyX7_ok : ∀ k, k < 10 → parseFieldDescriptor (TX7 k).2.2.1 = some (tyX7 k) := by decide +kernel
abbrev cX7_init : ByteArray := prog_1_method_1_code
def yX7_init : MethodName := ⟨RX7, "<init>", "()V"⟩
abbrev cX7_type : ByteArray := prog_1_method_2_code
def yX7_type : MethodName := ⟨RX7, "type", "(I)I"⟩
abbrev cX7_clear : ByteArray := prog_1_method_3_code
def yX7_clear : MethodName := ⟨RX7, "clear", "()I"⟩
abbrev cX7_net : ByteArray := prog_1_method_4_code
def yX7_net : MethodName := ⟨RX7, "net", "()I"⟩
abbrev cX7_contact : ByteArray := prog_1_method_5_code
def yX7_contact : MethodName := ⟨RX7, "contact", "(II)I"⟩
abbrev cX7_load : ByteArray := prog_1_method_6_code
def yX7_load : MethodName := ⟨RX7, "load", "(II)I"⟩
abbrev cX7_wishes : ByteArray := prog_1_method_7_code
def yX7_wishes : MethodName := ⟨RX7, "wishes", "(II)I"⟩
abbrev cX7_cures : ByteArray := prog_1_method_8_code
def yX7_cures : MethodName := ⟨RX7, "cures", "(III)I"⟩
abbrev cX7_sticks : ByteArray := prog_1_method_9_code
def yX7_sticks : MethodName := ⟨RX7, "sticks", "(II)I"⟩
abbrev cX7_undo : ByteArray := prog_1_method_10_code
def yX7_undo : MethodName := ⟨RX7, "undo", "()I"⟩
abbrev cX7_path : ByteArray := prog_1_method_11_code
def yX7_path : MethodName := ⟨RX7, "path", "(III)I"⟩
abbrev cX7_shortest : ByteArray := prog_1_method_12_code
def yX7_shortest : MethodName := ⟨RX7, "shortest", "(III)I"⟩
abbrev cX7_parting : ByteArray := prog_1_method_13_code
def yX7_parting : MethodName := ⟨RX7, "parting", "(II)I"⟩
abbrev cX7_enough : ByteArray := prog_1_method_14_code
def yX7_enough : MethodName := ⟨RX7, "enough", "(I)I"⟩
abbrev cX7_flash : ByteArray := prog_1_method_15_code
def yX7_flash : MethodName := ⟨RX7, "flash", "(III)I"⟩
abbrev cX7_odds : ByteArray := prog_1_method_16_code
def yX7_odds : MethodName := ⟨RX7, "odds", "(IIII)I"⟩
abbrev cX7_sees : ByteArray := prog_1_method_17_code
def yX7_sees : MethodName := ⟨RX7, "sees", "(III)I"⟩
abbrev cX7_forget : ByteArray := prog_1_method_18_code
def yX7_forget : MethodName := ⟨RX7, "forget", "()I"⟩
abbrev cX7_unseen : ByteArray := prog_1_method_19_code
def yX7_unseen : MethodName := ⟨RX7, "unseen", "(I)I"⟩
abbrev cX7_keep : ByteArray := prog_1_method_20_code
def yX7_keep : MethodName := ⟨RX7, "keep", "(I)I"⟩
abbrev cX7_back : ByteArray := prog_1_method_21_code
def yX7_back : MethodName := ⟨RX7, "back", "(I)I"⟩
abbrev cX7_count : ByteArray := prog_1_method_22_code
def yX7_count : MethodName := ⟨RX7, "count", "(I)I"⟩
abbrev cX7_isContact : ByteArray := prog_1_method_23_code
def yX7_isContact : MethodName := ⟨RX7, "isContact", "(I)Z"⟩
abbrev cX7_isLoad : ByteArray := prog_1_method_24_code
def yX7_isLoad : MethodName := ⟨RX7, "isLoad", "(I)Z"⟩
abbrev cX7_isState : ByteArray := prog_1_method_25_code
def yX7_isState : MethodName := ⟨RX7, "isState", "(I)Z"⟩
abbrev cX7_isImage : ByteArray := prog_1_method_26_code
def yX7_isImage : MethodName := ⟨RX7, "isImage", "(I)Z"⟩
abbrev cX7_hasBit : ByteArray := prog_1_method_27_code
def yX7_hasBit : MethodName := ⟨RX7, "hasBit", "(II)Z"⟩
abbrev cX7_choicesOfSwitch : ByteArray := prog_1_method_28_code
def yX7_choicesOfSwitch : MethodName := ⟨RX7, "choicesOfSwitch", "(I)I"⟩
abbrev cX7_wishWhatIsFed : ByteArray := prog_1_method_29_code
def yX7_wishWhatIsFed : MethodName := ⟨RX7, "wishWhatIsFed", "()V"⟩
abbrev cX7_fedNow : ByteArray := prog_1_method_30_code
def yX7_fedNow : MethodName := ⟨RX7, "fedNow", "(I)I"⟩
abbrev cX7_howManyPaths : ByteArray := prog_1_method_31_code
def yX7_howManyPaths : MethodName := ⟨RX7, "howManyPaths", "(I)I"⟩
abbrev cX7_loadsThatSneak : ByteArray := prog_1_method_32_code
def yX7_loadsThatSneak : MethodName := ⟨RX7, "loadsThatSneak", "()I"⟩
abbrev cX7_loadsThatMiss : ByteArray := prog_1_method_33_code
def yX7_loadsThatMiss : MethodName := ⟨RX7, "loadsThatMiss", "()I"⟩
abbrev cX7_noteMissing : ByteArray := prog_1_method_34_code
def yX7_noteMissing : MethodName := ⟨RX7, "noteMissing", "()V"⟩
abbrev cX7_isEnough : ByteArray := prog_1_method_35_code
def yX7_isEnough : MethodName := ⟨RX7, "isEnough", "(III)Z"⟩
abbrev cX7_weight : ByteArray := prog_1_method_36_code
def yX7_weight : MethodName := ⟨RX7, "weight", "(II)I"⟩
abbrev cX7_commonDivisor : ByteArray := prog_1_method_37_code
def yX7_commonDivisor : MethodName := ⟨RX7, "commonDivisor", "(II)I"⟩
def RX8 : String := "SneakPathsModel"
def TX8 : u_T := fun k => match k with
  | 0 => ("SneakPathsModel", "thrown", "I", false)
  | 1 => ("SneakPathsModel", "text", "[I", true)
  | 2 => ("SneakPathsModel", "typed", "I", false)
  | 3 => ("SneakPathsModel", "spot", "I", false)
  | 4 => ("SneakPathsModel", "token", "I", false)
  | 5 => ("SneakPathsModel", "place", "I", false)
  | 6 => ("SneakPathsModel", "value", "I", false)
  | 7 => ("SneakPathsModel", "fault", "I", false)
  | 8 => ("SneakPathsModel", "told", "[I", true)
  | 9 => ("SneakPathsModel", "draft", "[I", true)
  | 10 => ("SneakPathsModel", "s", "[I", true)
  | 11 => ("SneakPathsModel", "undos", "[I", true)
  | 12 => ("SneakPathsModel", "undoMany", "I", false)
  | 13 => ("SneakPathsModel", "kept", "[I", true)
  | 14 => ("SneakPathsModel", "isKept", "[Z", true)
  | 15 => ("SneakPathsModel", "seenLoad", "[I", true)
  | 16 => ("SneakPathsModel", "seenState", "[I", true)
  | 17 => ("SneakPathsModel", "seenFed", "[I", true)
  | 18 => ("SneakPathsModel", "seenMany", "I", false)
  | 19 => ("SneakPathsModel", "step", "[I", true)
  | 20 => ("SneakPathsModel", "where", "[I", true)
  | 21 => ("SneakPathsModel", "steps", "I", false)
  | 22 => ("SneakPathsModel", "best", "[I", true)
  | _ => ("SneakPathsModel", "missing", "[I", true)
def tyX8 : Nat → FieldType := fun k => match k with
  | 0 => .int
  | 1 => .array .int
  | 2 => .int
  | 3 => .int
  | 4 => .int
  | 5 => .int
  | 6 => .int
  | 7 => .int
  | 8 => .array .int
  | 9 => .array .int
  | 10 => .array .int
  | 11 => .array .int
  | 12 => .int
  | 13 => .array .int
  | 14 => .array .boolean
  | 15 => .array .int
  | 16 => .array .int
  | 17 => .array .int
  | 18 => .int
  | 19 => .array .int
  | 20 => .array .int
  | 21 => .int
  | 22 => .array .int
  | _ => .array .int
abbrev wsX80 : List Cond := u_ws RX8 TX8 24
theorem nmX8 : ∀ a, a < 24 → ∀ b, b < 24 → a ≠ b → (TX8 a).2.1 ≠ (TX8 b).2.1 := by decide +kernel
theorem tyX8_ok : ∀ k, k < 24 → parseFieldDescriptor (TX8 k).2.2.1 = some (tyX8 k) := by decide +kernel
abbrev cX8_init : ByteArray := prog_10_method_1_code
def yX8_init : MethodName := ⟨RX8, "<init>", "()V"⟩
abbrev cX8_in : ByteArray := prog_10_method_3_code
def yX8_in : MethodName := ⟨RX8, "in", "(III)Z"⟩
abbrev cX8_has : ByteArray := prog_10_method_4_code
def yX8_has : MethodName := ⟨RX8, "has", "(II)Z"⟩
abbrev cX8_ones : ByteArray := prog_10_method_5_code
def yX8_ones : MethodName := ⟨RX8, "ones", "(I)I"⟩
abbrev cX8_type : ByteArray := prog_10_method_6_code
def yX8_type : MethodName := ⟨RX8, "type", "(I)I"⟩
abbrev cX8_clear : ByteArray := prog_10_method_7_code
def yX8_clear : MethodName := ⟨RX8, "clear", "()I"⟩
abbrev cX8_letterAt : ByteArray := prog_10_method_8_code
def yX8_letterAt : MethodName := ⟨RX8, "letterAt", "(I)I"⟩
abbrev cX8_isLetter : ByteArray := prog_10_method_9_code
def yX8_isLetter : MethodName := ⟨RX8, "isLetter", "(I)Z"⟩
abbrev cX8_advances : ByteArray := prog_10_method_10_code
def yX8_advances : MethodName := ⟨RX8, "advances", "()V"⟩
abbrev cX8_isWell : ByteArray := prog_10_method_11_code
def yX8_isWell : MethodName := ⟨RX8, "isWell", "()Z"⟩
abbrev cX8_takes : ByteArray := prog_10_method_12_code
def yX8_takes : MethodName := ⟨RX8, "takes", "(Z)I"⟩
abbrev cX8_isNumber : ByteArray := prog_10_method_13_code
def yX8_isNumber : MethodName := ⟨RX8, "isNumber", "(II)Z"⟩
abbrev cX8_begins : ByteArray := prog_10_method_14_code
def yX8_begins : MethodName := ⟨RX8, "begins", "()V"⟩
abbrev cX8_isFreeNode : ByteArray := prog_10_method_15_code
def yX8_isFreeNode : MethodName := ⟨RX8, "isFreeNode", "(I)Z"⟩
abbrev cX8_readsContact : ByteArray := prog_10_method_16_code
def yX8_readsContact : MethodName := ⟨RX8, "readsContact", "(I)V"⟩
abbrev cX8_readsItem : ByteArray := prog_10_method_17_code
def yX8_readsItem : MethodName := ⟨RX8, "readsItem", "(I)V"⟩
abbrev cX8_mayBegin : ByteArray := prog_10_method_18_code
def yX8_mayBegin : MethodName := ⟨RX8, "mayBegin", "(I)Z"⟩
abbrev cX8_net : ByteArray := prog_10_method_19_code
def yX8_net : MethodName := ⟨RX8, "net", "()I"⟩
abbrev cX8_settles : ByteArray := prog_10_method_20_code
def yX8_settles : MethodName := ⟨RX8, "settles", "()V"⟩
abbrev cX8_isContact : ByteArray := prog_10_method_21_code
def yX8_isContact : MethodName := ⟨RX8, "isContact", "(I)Z"⟩
abbrev cX8_isLoad : ByteArray := prog_10_method_22_code
def yX8_isLoad : MethodName := ⟨RX8, "isLoad", "(I)Z"⟩
abbrev cX8_isState : ByteArray := prog_10_method_23_code
def yX8_isState : MethodName := ⟨RX8, "isState", "(I)Z"⟩
abbrev cX8_isShut : ByteArray := prog_10_method_24_code
def yX8_isShut : MethodName := ⟨RX8, "isShut", "(II)Z"⟩
abbrev cX8_isWay : ByteArray := prog_10_method_25_code
def yX8_isWay : MethodName := ⟨RX8, "isWay", "(IZ)Z"⟩
abbrev cX8_live : ByteArray := prog_10_method_26_code
def yX8_live : MethodName := ⟨RX8, "live", "(II)I"⟩
abbrev cX8_isFed : ByteArray := prog_10_method_27_code
def yX8_isFed : MethodName := ⟨RX8, "isFed", "(III)Z"⟩
abbrev cX8_fedIn : ByteArray := prog_10_method_28_code
def yX8_fedIn : MethodName := ⟨RX8, "fedIn", "(I)I"⟩
abbrev cX8_contact : ByteArray := prog_10_method_29_code
def yX8_contact : MethodName := ⟨RX8, "contact", "(II)I"⟩
abbrev cX8_load : ByteArray := prog_10_method_30_code
def yX8_load : MethodName := ⟨RX8, "load", "(II)I"⟩
abbrev cX8_notes : ByteArray := prog_10_method_31_code
def yX8_notes : MethodName := ⟨RX8, "notes", "()V"⟩
abbrev cX8_wishes : ByteArray := prog_10_method_32_code
def yX8_wishes : MethodName := ⟨RX8, "wishes", "(II)I"⟩
abbrev cX8_cures : ByteArray := prog_10_method_33_code
def yX8_cures : MethodName := ⟨RX8, "cures", "(III)I"⟩
abbrev cX8_sticks : ByteArray := prog_10_method_34_code
def yX8_sticks : MethodName := ⟨RX8, "sticks", "(II)I"⟩
abbrev cX8_undo : ByteArray := prog_10_method_35_code
def yX8_undo : MethodName := ⟨RX8, "undo", "()I"⟩
abbrev cX8_toBy : ByteArray := prog_10_method_36_code
def yX8_toBy : MethodName := ⟨RX8, "toBy", "(II)I"⟩
abbrev cX8_isOnPath : ByteArray := prog_10_method_37_code
def yX8_isOnPath : MethodName := ⟨RX8, "isOnPath", "(I)Z"⟩
abbrev cX8_beginsPath : ByteArray := prog_10_method_38_code
def yX8_beginsPath : MethodName := ⟨RX8, "beginsPath", "()V"⟩
abbrev cX8_nextPath : ByteArray := prog_10_method_39_code
def yX8_nextPath : MethodName := ⟨RX8, "nextPath", "(I)Z"⟩
abbrev cX8_pathMany : ByteArray := prog_10_method_40_code
def yX8_pathMany : MethodName := ⟨RX8, "pathMany", "(I)I"⟩
abbrev cX8_shutIn : ByteArray := prog_10_method_41_code
def yX8_shutIn : MethodName := ⟨RX8, "shutIn", "()I"⟩
abbrev cX8_path : ByteArray := prog_10_method_42_code
def yX8_path : MethodName := ⟨RX8, "path", "(III)I"⟩
abbrev cX8_shortest : ByteArray := prog_10_method_43_code
def yX8_shortest : MethodName := ⟨RX8, "shortest", "(III)I"⟩
abbrev cX8_parting : ByteArray := prog_10_method_44_code
def yX8_parting : MethodName := ⟨RX8, "parting", "(II)I"⟩
abbrev cX8_isEnough : ByteArray := prog_10_method_45_code
def yX8_isEnough : MethodName := ⟨RX8, "isEnough", "([I)Z"⟩
abbrev cX8_enough : ByteArray := prog_10_method_46_code
def yX8_enough : MethodName := ⟨RX8, "enough", "(I)I"⟩
abbrev cX8_flash : ByteArray := prog_10_method_47_code
def yX8_flash : MethodName := ⟨RX8, "flash", "(III)I"⟩
abbrev cX8_gcd : ByteArray := prog_10_method_48_code
def yX8_gcd : MethodName := ⟨RX8, "gcd", "(JJ)J"⟩
abbrev cX8_odds : ByteArray := prog_10_method_49_code
def yX8_odds : MethodName := ⟨RX8, "odds", "(IIII)I"⟩
abbrev cX8_sees : ByteArray := prog_10_method_50_code
def yX8_sees : MethodName := ⟨RX8, "sees", "(III)I"⟩
abbrev cX8_forget : ByteArray := prog_10_method_51_code
def yX8_forget : MethodName := ⟨RX8, "forget", "()I"⟩
abbrev cX8_unseen : ByteArray := prog_10_method_52_code
def yX8_unseen : MethodName := ⟨RX8, "unseen", "(I)I"⟩
abbrev cX8_keep : ByteArray := prog_10_method_53_code
def yX8_keep : MethodName := ⟨RX8, "keep", "(I)I"⟩
abbrev cX8_back : ByteArray := prog_10_method_54_code
def yX8_back : MethodName := ⟨RX8, "back", "(I)I"⟩
abbrev cX8_count : ByteArray := prog_10_method_55_code
def yX8_count : MethodName := ⟨RX8, "count", "(I)I"⟩
def RJ6 : String := "java/lang/Integer"
def TJ6 : u_T := fun k => match k with
  | _ => ("", "", "", false)
def tyJ6 : Nat → FieldType := fun k => match k with
  | _ => .int
abbrev wsJ60 : List Cond := u_ws RJ6 TJ6 0
theorem nmJ6 : ∀ a, a < 0 → ∀ b, b < 0 → a ≠ b → (TJ6 a).2.1 ≠ (TJ6 b).2.1 := by decide +kernel
theorem tyJ6_ok : ∀ k, k < 0 → parseFieldDescriptor (TJ6 k).2.2.1 = some (tyJ6 k) := by decide +kernel
abbrev cJ6_bitCount_0f7a4 : ByteArray := prog_11_method_49_code
def yJ6_bitCount_0f7a4 : MethodName := ⟨RJ6, "bitCount", "(I)I"⟩
def RJ10 : String := "java/lang/System"
def TJ10 : u_T := fun k => match k with
  | _ => ("", "", "", false)
def tyJ10 : Nat → FieldType := fun k => match k with
  | _ => .int
abbrev wsJ100 : List Cond := u_ws RJ10 TJ10 0
theorem nmJ10 : ∀ a, a < 0 → ∀ b, b < 0 → a ≠ b → (TJ10 a).2.1 ≠ (TJ10 b).2.1 := by decide +kernel
theorem tyJ10_ok : ∀ k, k < 0 → parseFieldDescriptor (TJ10 k).2.2.1 = some (tyJ10 k) := by decide +kernel
def RL : String := "SneakPathsLaw"
abbrev cL_law : ByteArray := code
def yL_law : MethodName := ⟨RL, "law", "([I)Z"⟩
abbrev vwCl : List vw_C := [(RX0, TX0, 5), (RX1, TX1, 8), (RX2, TX2, 6), (RX3, TX3, 4), (RX4, TX4, 4), (RX5, TX5, 12), (RX6, TX6, 7), (RX7, TX7, 10), (RX8, TX8, 24)]
end
section
/-- the tables' words that stay good over calls -/
def lw_T : List Cond := lw_tbl.filter goodWord
theorem T_w {x : Cond} (i : Nat) (h : lw_tbl[i]? = some x) (g : goodWord x = true) : x ∈ lw_T := List.mem_filter.mpr ⟨List.mem_of_getElem? h, g⟩
theorem T_gw {x : Cond} (h : x ∈ lw_T) : goodWord x = true := (List.mem_filter.mp h).2
theorem T_tb {x : Cond} (h : x ∈ lw_T) : x ∈ lw_tbl := (List.mem_filter.mp h).1
theorem T_pl (ws : List Cond) (ps : List Nat) (hp : ws = ps.filterMap (fun i => lw_tbl[i]?)) (g : ws.all goodWord = true) : ∀ w ∈ ws, w ∈ lw_T := by
  intro w hw
  refine List.mem_filter.mpr ⟨?_, List.all_eq_true.mp g w hw⟩
  rw [hp] at hw
  obtain ⟨i, -, hi⟩ := List.mem_filterMap.mp hw
  exact List.mem_of_getElem? hi
def notMH (y : MethodName) (n : Nat) : Prop := y.cls ≠ "java/lang/invoke/MethodHandle" ∧ y.cls ≠ "java/lang/invoke/VarHandle" ∧ (parseMethodDescriptor y.desc).map (fun d => d.parameters.length) = some n
/-- a method's rows of the tables: one that is called on an object, a static one, a constructor -/
def Yv (y : MethodName) (cc : ByteArray) (maxL : Nat) (ret : Option FieldType) (n : Nat) : Prop := Cond.code y cc maxL ret ∈ lw_T ∧ Cond.instanceMethod y ∈ lw_T ∧ Cond.selects y.cls y y ∈ lw_T ∧ Cond.initialized y.cls ∈ lw_T ∧ notMH y n
def Ys (y : MethodName) (cc : ByteArray) (maxL : Nat) (ret : Option FieldType) (n : Nat) : Prop := Cond.code y cc maxL ret ∈ lw_T ∧ Cond.static y ∈ lw_T ∧ Cond.initialized y.cls ∈ lw_T ∧ notMH y n
def Yn (y : MethodName) (cc : ByteArray) (maxL n : Nat) : Prop := Cond.code y cc maxL none ∈ lw_T ∧ Cond.instanceMethod y ∈ lw_T ∧ Cond.initialized y.cls ∈ lw_T ∧ y.name = "<init>" ∧ notMH y n
set_option maxRecDepth 20000 in
theorem inT0 : ∀ w ∈ u_ws RX0 TX0 5, w ∈ lw_T := T_pl _ [195, 197, 199, 201, 203] (by decide +kernel) (by decide +kernel)
set_option maxRecDepth 20000 in
theorem inT1 : ∀ w ∈ u_ws RX1 TX1 8, w ∈ lw_T := T_pl _ [108, 110, 112, 114, 116, 118, 120, 122] (by decide +kernel) (by decide +kernel)
set_option maxRecDepth 20000 in
theorem inT2 : ∀ w ∈ u_ws RX2 TX2 6, w ∈ lw_T := T_pl _ [134, 136, 138, 140, 142, 144] (by decide +kernel) (by decide +kernel)
set_option maxRecDepth 20000 in
theorem inT3 : ∀ w ∈ u_ws RX3 TX3 4, w ∈ lw_T := T_pl _ [217, 219, 221, 223] (by decide +kernel) (by decide +kernel)
set_option maxRecDepth 20000 in
theorem inT4 : ∀ w ∈ u_ws RX4 TX4 4, w ∈ lw_T := T_pl _ [174, 176, 178, 180] (by decide +kernel) (by decide +kernel)
set_option maxRecDepth 20000 in
theorem inT5 : ∀ w ∈ u_ws RX5 TX5 12, w ∈ lw_T := T_pl _ [280, 282, 284, 286, 288, 290, 292, 294, 296, 298, 300, 302] (by decide +kernel) (by decide +kernel)
set_option maxRecDepth 20000 in
theorem inT6 : ∀ w ∈ u_ws RX6 TX6 7, w ∈ lw_T := T_pl _ [240, 242, 244, 246, 248, 250, 252] (by decide +kernel) (by decide +kernel)
set_option maxRecDepth 20000 in
theorem inT7 : ∀ w ∈ u_ws RX7 TX7 10, w ∈ lw_T := T_pl _ [316, 318, 320, 322, 324, 326, 328, 330, 332, 334] (by decide +kernel) (by decide +kernel)
set_option maxRecDepth 20000 in
theorem inT8 : ∀ w ∈ u_ws RX8 TX8 24, w ∈ lw_T := T_pl _ [692, 694, 696, 698, 700, 702, 704, 706, 708, 710, 712, 714, 716, 718, 720, 722, 724, 726, 728, 730, 732, 734, 736, 738] (by decide +kernel) (by decide +kernel)
set_option maxRecDepth 20000 in
theorem ni_L : Cond.initialized RL ∈ lw_T := T_w 48 (by decide +kernel) (by rfl)
set_option maxRecDepth 20000 in
theorem ni_X7 : Cond.initialized RX7 ∈ lw_T := T_w 49 (by decide +kernel) (by rfl)
set_option maxRecDepth 20000 in
theorem ni_X2 : Cond.initialized RX2 ∈ lw_T := T_w 50 (by decide +kernel) (by rfl)
set_option maxRecDepth 20000 in
theorem ni_X1 : Cond.initialized RX1 ∈ lw_T := T_w 51 (by decide +kernel) (by rfl)
set_option maxRecDepth 20000 in
theorem ni_X4 : Cond.initialized RX4 ∈ lw_T := T_w 52 (by decide +kernel) (by rfl)
set_option maxRecDepth 20000 in
theorem ni_X0 : Cond.initialized RX0 ∈ lw_T := T_w 53 (by decide +kernel) (by rfl)
set_option maxRecDepth 20000 in
theorem ni_X3 : Cond.initialized RX3 ∈ lw_T := T_w 54 (by decide +kernel) (by rfl)
set_option maxRecDepth 20000 in
theorem ni_X6 : Cond.initialized RX6 ∈ lw_T := T_w 55 (by decide +kernel) (by rfl)
set_option maxRecDepth 20000 in
theorem ni_X5 : Cond.initialized RX5 ∈ lw_T := T_w 56 (by decide +kernel) (by rfl)
set_option maxRecDepth 20000 in
theorem ni_X8 : Cond.initialized RX8 ∈ lw_T := T_w 57 (by decide +kernel) (by rfl)
set_option maxRecDepth 20000 in
theorem ni_J10 : Cond.initialized RJ10 ∈ lw_T := T_w 58 (by decide +kernel) (by rfl)
set_option maxRecDepth 20000 in
theorem ni_J6 : Cond.initialized RJ6 ∈ lw_T := T_w 59 (by decide +kernel) (by rfl)
set_option maxRecDepth 20000 in
theorem cl_L_7 : Cond.classLink RL 7 RX7 ∈ lw_T := T_w 60 (by decide +kernel) (by rfl)
set_option maxRecDepth 20000 in
theorem is_X7 : Cond.instantiable RX7 10 ∈ lw_T := T_w 61 (by decide +kernel) (by rfl)
set_option maxRecDepth 20000 in
theorem ml_L_9 : Cond.methodLink RL 9 yX7_init ∈ lw_T := T_w 62 (by decide +kernel) (by rfl)
set_option maxRecDepth 20000 in
theorem ml_X7_1 : Cond.methodLink RX7 1 objectInit ∈ lw_T := T_w 65 (by decide +kernel) (by rfl)
set_option maxRecDepth 20000 in
theorem in_Object : Cond.instanceMethod objectInit ∈ lw_T := T_w 66 (by decide +kernel) (by rfl)
set_option maxRecDepth 20000 in
theorem cd_Object : Cond.code objectInit ⟨#[0xb1]⟩ 1 none ∈ lw_T := T_w 67 (by rfl) (by rfl)
set_option maxRecDepth 20000 in
theorem cl_X7_7 : Cond.classLink RX7 7 RX2 ∈ lw_T := T_w 68 (by decide +kernel) (by rfl)
set_option maxRecDepth 20000 in
theorem is_X2 : Cond.instantiable RX2 6 ∈ lw_T := T_w 69 (by decide +kernel) (by rfl)
set_option maxRecDepth 20000 in
theorem ml_X2_3 : Cond.methodLink RX2 3 objectInit ∈ lw_T := T_w 73 (by decide +kernel) (by rfl)
set_option maxRecDepth 20000 in
theorem cl_X2_9 : Cond.classLink RX2 9 RX1 ∈ lw_T := T_w 74 (by decide +kernel) (by rfl)
set_option maxRecDepth 20000 in
theorem is_X1 : Cond.instantiable RX1 8 ∈ lw_T := T_w 75 (by decide +kernel) (by rfl)
set_option maxRecDepth 20000 in
theorem ml_X1_3 : Cond.methodLink RX1 3 objectInit ∈ lw_T := T_w 79 (by decide +kernel) (by rfl)
set_option maxRecDepth 20000 in
theorem fl_X1_9 : Cond.fieldLink RX1 9 "SneakPaths$Net" "nodes" "I" ∈ lw_T := T_w 80 (by decide +kernel) (by rfl)
set_option maxRecDepth 20000 in
theorem fl_X2_60 : Cond.fieldLink RX2 60 "SneakPaths$Net" "nodes" "I" ∈ lw_T := T_w 81 (by decide +kernel) (by rfl)
set_option maxRecDepth 20000 in
theorem fl_X6_72 : Cond.fieldLink RX6 72 "SneakPaths$Net" "nodes" "I" ∈ lw_T := T_w 82 (by decide +kernel) (by rfl)
set_option maxRecDepth 20000 in
theorem fl_X7_230 : Cond.fieldLink RX7 230 "SneakPaths$Net" "nodes" "I" ∈ lw_T := T_w 83 (by decide +kernel) (by rfl)
set_option maxRecDepth 20000 in
theorem fl_X1_31 : Cond.fieldLink RX1 31 "SneakPaths$Net" "contacts" "I" ∈ lw_T := T_w 84 (by decide +kernel) (by rfl)
set_option maxRecDepth 20000 in
theorem fl_X6_33 : Cond.fieldLink RX6 33 "SneakPaths$Net" "contacts" "I" ∈ lw_T := T_w 85 (by decide +kernel) (by rfl)
set_option maxRecDepth 20000 in
theorem fl_X5_56 : Cond.fieldLink RX5 56 "SneakPaths$Net" "contacts" "I" ∈ lw_T := T_w 86 (by decide +kernel) (by rfl)
set_option maxRecDepth 20000 in
theorem fl_X2_66 : Cond.fieldLink RX2 66 "SneakPaths$Net" "contacts" "I" ∈ lw_T := T_w 87 (by decide +kernel) (by rfl)
set_option maxRecDepth 20000 in
theorem fl_X7_183 : Cond.fieldLink RX7 183 "SneakPaths$Net" "contacts" "I" ∈ lw_T := T_w 88 (by decide +kernel) (by rfl)
set_option maxRecDepth 20000 in
theorem fl_X1_34 : Cond.fieldLink RX1 34 "SneakPaths$Net" "loads" "I" ∈ lw_T := T_w 89 (by decide +kernel) (by rfl)
set_option maxRecDepth 20000 in
theorem fl_X2_73 : Cond.fieldLink RX2 73 "SneakPaths$Net" "loads" "I" ∈ lw_T := T_w 90 (by decide +kernel) (by rfl)
set_option maxRecDepth 20000 in
theorem fl_X7_233 : Cond.fieldLink RX7 233 "SneakPaths$Net" "loads" "I" ∈ lw_T := T_w 91 (by decide +kernel) (by rfl)
set_option maxRecDepth 20000 in
theorem fl_X1_15 : Cond.fieldLink RX1 15 "SneakPaths$Net" "kind" "[I" ∈ lw_T := T_w 92 (by decide +kernel) (by rfl)
set_option maxRecDepth 20000 in
theorem fl_X6_55 : Cond.fieldLink RX6 55 "SneakPaths$Net" "kind" "[I" ∈ lw_T := T_w 93 (by decide +kernel) (by rfl)
set_option maxRecDepth 20000 in
theorem fl_X7_108 : Cond.fieldLink RX7 108 "SneakPaths$Net" "kind" "[I" ∈ lw_T := T_w 94 (by decide +kernel) (by rfl)
set_option maxRecDepth 20000 in
theorem fl_X1_19 : Cond.fieldLink RX1 19 "SneakPaths$Net" "first" "[I" ∈ lw_T := T_w 95 (by decide +kernel) (by rfl)
set_option maxRecDepth 20000 in
theorem fl_X7_111 : Cond.fieldLink RX7 111 "SneakPaths$Net" "first" "[I" ∈ lw_T := T_w 96 (by decide +kernel) (by rfl)
set_option maxRecDepth 20000 in
theorem fl_X6_79 : Cond.fieldLink RX6 79 "SneakPaths$Net" "first" "[I" ∈ lw_T := T_w 97 (by decide +kernel) (by rfl)
set_option maxRecDepth 20000 in
theorem fl_X1_22 : Cond.fieldLink RX1 22 "SneakPaths$Net" "second" "[I" ∈ lw_T := T_w 98 (by decide +kernel) (by rfl)
set_option maxRecDepth 20000 in
theorem fl_X7_114 : Cond.fieldLink RX7 114 "SneakPaths$Net" "second" "[I" ∈ lw_T := T_w 99 (by decide +kernel) (by rfl)
set_option maxRecDepth 20000 in
theorem fl_X6_82 : Cond.fieldLink RX6 82 "SneakPaths$Net" "second" "[I" ∈ lw_T := T_w 100 (by decide +kernel) (by rfl)
set_option maxRecDepth 20000 in
theorem fl_X1_25 : Cond.fieldLink RX1 25 "SneakPaths$Net" "by" "[I" ∈ lw_T := T_w 101 (by decide +kernel) (by rfl)
set_option maxRecDepth 20000 in
theorem fl_X6_58 : Cond.fieldLink RX6 58 "SneakPaths$Net" "by" "[I" ∈ lw_T := T_w 102 (by decide +kernel) (by rfl)
set_option maxRecDepth 20000 in
theorem fl_X7_117 : Cond.fieldLink RX7 117 "SneakPaths$Net" "by" "[I" ∈ lw_T := T_w 103 (by decide +kernel) (by rfl)
set_option maxRecDepth 20000 in
theorem fl_X1_28 : Cond.fieldLink RX1 28 "SneakPaths$Net" "loadNode" "[I" ∈ lw_T := T_w 104 (by decide +kernel) (by rfl)
set_option maxRecDepth 20000 in
theorem fl_X5_26 : Cond.fieldLink RX5 26 "SneakPaths$Net" "loadNode" "[I" ∈ lw_T := T_w 105 (by decide +kernel) (by rfl)
set_option maxRecDepth 20000 in
theorem fl_X7_132 : Cond.fieldLink RX7 132 "SneakPaths$Net" "loadNode" "[I" ∈ lw_T := T_w 106 (by decide +kernel) (by rfl)
set_option maxRecDepth 20000 in
theorem fl_X6_89 : Cond.fieldLink RX6 89 "SneakPaths$Net" "loadNode" "[I" ∈ lw_T := T_w 107 (by decide +kernel) (by rfl)
set_option maxRecDepth 20000 in
theorem ac_int : Cond.arrayClass .int ∈ lw_T := T_w 125 (by decide +kernel) (by rfl)
set_option maxRecDepth 20000 in
theorem fl_X2_12 : Cond.fieldLink RX2 12 "SneakPaths$Reader" "draft" "LSneakPaths$Net;" ∈ lw_T := T_w 126 (by decide +kernel) (by rfl)
set_option maxRecDepth 20000 in
theorem fl_X7_86 : Cond.fieldLink RX7 86 "SneakPaths$Reader" "draft" "LSneakPaths$Net;" ∈ lw_T := T_w 127 (by decide +kernel) (by rfl)
set_option maxRecDepth 20000 in
theorem fl_X2_22 : Cond.fieldLink RX2 22 "SneakPaths$Reader" "length" "I" ∈ lw_T := T_w 128 (by decide +kernel) (by rfl)
set_option maxRecDepth 20000 in
theorem fl_X7_78 : Cond.fieldLink RX7 78 "SneakPaths$Reader" "length" "I" ∈ lw_T := T_w 129 (by decide +kernel) (by rfl)
set_option maxRecDepth 20000 in
theorem fl_X2_18 : Cond.fieldLink RX2 18 "SneakPaths$Reader" "letters" "[I" ∈ lw_T := T_w 130 (by decide +kernel) (by rfl)
set_option maxRecDepth 20000 in
theorem fl_X2_29 : Cond.fieldLink RX2 29 "SneakPaths$Reader" "at" "I" ∈ lw_T := T_w 131 (by decide +kernel) (by rfl)
set_option maxRecDepth 20000 in
theorem fl_X2_35 : Cond.fieldLink RX2 35 "SneakPaths$Reader" "token" "I" ∈ lw_T := T_w 132 (by decide +kernel) (by rfl)
set_option maxRecDepth 20000 in
theorem fl_X2_42 : Cond.fieldLink RX2 42 "SneakPaths$Reader" "place" "I" ∈ lw_T := T_w 133 (by decide +kernel) (by rfl)
set_option maxRecDepth 20000 in
theorem cl_X7_16 : Cond.classLink RX7 16 RX1 ∈ lw_T := T_w 147 (by decide +kernel) (by rfl)
set_option maxRecDepth 20000 in
theorem cl_X7_23 : Cond.classLink RX7 23 RX4 ∈ lw_T := T_w 149 (by decide +kernel) (by rfl)
set_option maxRecDepth 20000 in
theorem is_X4 : Cond.instantiable RX4 4 ∈ lw_T := T_w 150 (by decide +kernel) (by rfl)
set_option maxRecDepth 20000 in
theorem ml_X7_25 : Cond.methodLink RX7 25 yX4_init ∈ lw_T := T_w 151 (by decide +kernel) (by rfl)
set_option maxRecDepth 20000 in
theorem ml_X4_3 : Cond.methodLink RX4 3 objectInit ∈ lw_T := T_w 154 (by decide +kernel) (by rfl)
set_option maxRecDepth 20000 in
theorem ml_X4_24 : Cond.methodLink RX4 24 yX4_reset ∈ lw_T := T_w 155 (by decide +kernel) (by rfl)
set_option maxRecDepth 20000 in
theorem fl_X4_9 : Cond.fieldLink RX4 9 "SneakPaths$Setting" "wished" "[I" ∈ lw_T := T_w 159 (by decide +kernel) (by rfl)
set_option maxRecDepth 20000 in
theorem fl_X0_31 : Cond.fieldLink RX0 31 "SneakPaths$Setting" "wished" "[I" ∈ lw_T := T_w 160 (by decide +kernel) (by rfl)
set_option maxRecDepth 20000 in
theorem fl_X7_139 : Cond.fieldLink RX7 139 "SneakPaths$Setting" "wished" "[I" ∈ lw_T := T_w 161 (by decide +kernel) (by rfl)
set_option maxRecDepth 20000 in
theorem fl_X4_15 : Cond.fieldLink RX4 15 "SneakPaths$Setting" "cure" "[I" ∈ lw_T := T_w 162 (by decide +kernel) (by rfl)
set_option maxRecDepth 20000 in
theorem fl_X6_39 : Cond.fieldLink RX6 39 "SneakPaths$Setting" "cure" "[I" ∈ lw_T := T_w 163 (by decide +kernel) (by rfl)
set_option maxRecDepth 20000 in
theorem fl_X0_36 : Cond.fieldLink RX0 36 "SneakPaths$Setting" "cure" "[I" ∈ lw_T := T_w 164 (by decide +kernel) (by rfl)
set_option maxRecDepth 20000 in
theorem fl_X7_120 : Cond.fieldLink RX7 120 "SneakPaths$Setting" "cure" "[I" ∈ lw_T := T_w 165 (by decide +kernel) (by rfl)
set_option maxRecDepth 20000 in
theorem fl_X4_18 : Cond.fieldLink RX4 18 "SneakPaths$Setting" "cureBy" "[I" ∈ lw_T := T_w 166 (by decide +kernel) (by rfl)
set_option maxRecDepth 20000 in
theorem fl_X6_44 : Cond.fieldLink RX6 44 "SneakPaths$Setting" "cureBy" "[I" ∈ lw_T := T_w 167 (by decide +kernel) (by rfl)
set_option maxRecDepth 20000 in
theorem fl_X0_39 : Cond.fieldLink RX0 39 "SneakPaths$Setting" "cureBy" "[I" ∈ lw_T := T_w 168 (by decide +kernel) (by rfl)
set_option maxRecDepth 20000 in
theorem fl_X7_123 : Cond.fieldLink RX7 123 "SneakPaths$Setting" "cureBy" "[I" ∈ lw_T := T_w 169 (by decide +kernel) (by rfl)
set_option maxRecDepth 20000 in
theorem fl_X4_21 : Cond.fieldLink RX4 21 "SneakPaths$Setting" "stick" "[I" ∈ lw_T := T_w 170 (by decide +kernel) (by rfl)
set_option maxRecDepth 20000 in
theorem fl_X6_47 : Cond.fieldLink RX6 47 "SneakPaths$Setting" "stick" "[I" ∈ lw_T := T_w 171 (by decide +kernel) (by rfl)
set_option maxRecDepth 20000 in
theorem fl_X0_42 : Cond.fieldLink RX0 42 "SneakPaths$Setting" "stick" "[I" ∈ lw_T := T_w 172 (by decide +kernel) (by rfl)
set_option maxRecDepth 20000 in
theorem fl_X7_126 : Cond.fieldLink RX7 126 "SneakPaths$Setting" "stick" "[I" ∈ lw_T := T_w 173 (by decide +kernel) (by rfl)
set_option maxRecDepth 20000 in
theorem cl_X7_30 : Cond.classLink RX7 30 RX0 ∈ lw_T := T_w 183 (by decide +kernel) (by rfl)
set_option maxRecDepth 20000 in
theorem is_X0 : Cond.instantiable RX0 5 ∈ lw_T := T_w 184 (by decide +kernel) (by rfl)
set_option maxRecDepth 20000 in
theorem ml_X0_3 : Cond.methodLink RX0 3 objectInit ∈ lw_T := T_w 188 (by decide +kernel) (by rfl)
set_option maxRecDepth 20000 in
theorem fl_X0_24 : Cond.fieldLink RX0 24 "SneakPaths$History" "known" "I" ∈ lw_T := T_w 189 (by decide +kernel) (by rfl)
set_option maxRecDepth 20000 in
theorem fl_X7_96 : Cond.fieldLink RX7 96 "SneakPaths$History" "known" "I" ∈ lw_T := T_w 190 (by decide +kernel) (by rfl)
set_option maxRecDepth 20000 in
theorem fl_X0_9 : Cond.fieldLink RX0 9 "SneakPaths$History" "sort" "[I" ∈ lw_T := T_w 191 (by decide +kernel) (by rfl)
set_option maxRecDepth 20000 in
theorem fl_X0_15 : Cond.fieldLink RX0 15 "SneakPaths$History" "which" "[I" ∈ lw_T := T_w 192 (by decide +kernel) (by rfl)
set_option maxRecDepth 20000 in
theorem fl_X0_18 : Cond.fieldLink RX0 18 "SneakPaths$History" "was" "[I" ∈ lw_T := T_w 193 (by decide +kernel) (by rfl)
set_option maxRecDepth 20000 in
theorem fl_X0_21 : Cond.fieldLink RX0 21 "SneakPaths$History" "wasBy" "[I" ∈ lw_T := T_w 194 (by decide +kernel) (by rfl)
set_option maxRecDepth 20000 in
theorem cl_X7_37 : Cond.classLink RX7 37 RX3 ∈ lw_T := T_w 206 (by decide +kernel) (by rfl)
set_option maxRecDepth 20000 in
theorem is_X3 : Cond.instantiable RX3 4 ∈ lw_T := T_w 207 (by decide +kernel) (by rfl)
set_option maxRecDepth 20000 in
theorem ml_X3_3 : Cond.methodLink RX3 3 objectInit ∈ lw_T := T_w 211 (by decide +kernel) (by rfl)
set_option maxRecDepth 20000 in
theorem fl_X3_21 : Cond.fieldLink RX3 21 "SneakPaths$Seen" "size" "I" ∈ lw_T := T_w 212 (by decide +kernel) (by rfl)
set_option maxRecDepth 20000 in
theorem fl_X7_99 : Cond.fieldLink RX7 99 "SneakPaths$Seen" "size" "I" ∈ lw_T := T_w 213 (by decide +kernel) (by rfl)
set_option maxRecDepth 20000 in
theorem fl_X3_9 : Cond.fieldLink RX3 9 "SneakPaths$Seen" "which" "[I" ∈ lw_T := T_w 214 (by decide +kernel) (by rfl)
set_option maxRecDepth 20000 in
theorem fl_X3_15 : Cond.fieldLink RX3 15 "SneakPaths$Seen" "state" "[I" ∈ lw_T := T_w 215 (by decide +kernel) (by rfl)
set_option maxRecDepth 20000 in
theorem fl_X3_18 : Cond.fieldLink RX3 18 "SneakPaths$Seen" "fed" "[I" ∈ lw_T := T_w 216 (by decide +kernel) (by rfl)
set_option maxRecDepth 20000 in
theorem cl_X7_44 : Cond.classLink RX7 44 RX6 ∈ lw_T := T_w 226 (by decide +kernel) (by rfl)
set_option maxRecDepth 20000 in
theorem is_X6 : Cond.instantiable RX6 7 ∈ lw_T := T_w 227 (by decide +kernel) (by rfl)
set_option maxRecDepth 20000 in
theorem ml_X7_46 : Cond.methodLink RX7 46 yX6_init ∈ lw_T := T_w 228 (by decide +kernel) (by rfl)
set_option maxRecDepth 20000 in
theorem ml_X6_3 : Cond.methodLink RX6 3 objectInit ∈ lw_T := T_w 231 (by decide +kernel) (by rfl)
set_option maxRecDepth 20000 in
theorem fl_X6_9 : Cond.fieldLink RX6 9 "SneakPaths$Ways" "shut" "[I" ∈ lw_T := T_w 232 (by decide +kernel) (by rfl)
set_option maxRecDepth 20000 in
theorem fl_X5_65 : Cond.fieldLink RX5 65 "SneakPaths$Ways" "shut" "[I" ∈ lw_T := T_w 233 (by decide +kernel) (by rfl)
set_option maxRecDepth 20000 in
theorem fl_X6_25 : Cond.fieldLink RX6 25 "SneakPaths$Ways" "plan" "LSneakPaths$Net;" ∈ lw_T := T_w 234 (by decide +kernel) (by rfl)
set_option maxRecDepth 20000 in
theorem fl_X6_29 : Cond.fieldLink RX6 29 "SneakPaths$Ways" "now" "LSneakPaths$Setting;" ∈ lw_T := T_w 235 (by decide +kernel) (by rfl)
set_option maxRecDepth 20000 in
theorem fl_X6_15 : Cond.fieldLink RX6 15 "SneakPaths$Ways" "forth" "[Z" ∈ lw_T := T_w 236 (by decide +kernel) (by rfl)
set_option maxRecDepth 20000 in
theorem fl_X6_19 : Cond.fieldLink RX6 19 "SneakPaths$Ways" "back" "[Z" ∈ lw_T := T_w 237 (by decide +kernel) (by rfl)
set_option maxRecDepth 20000 in
theorem fl_X6_22 : Cond.fieldLink RX6 22 "SneakPaths$Ways" "reached" "[I" ∈ lw_T := T_w 238 (by decide +kernel) (by rfl)
set_option maxRecDepth 20000 in
theorem fl_X6_68 : Cond.fieldLink RX6 68 "SneakPaths$Ways" "grew" "Z" ∈ lw_T := T_w 239 (by decide +kernel) (by rfl)
set_option maxRecDepth 20000 in
theorem ac_boolean : Cond.arrayClass .boolean ∈ lw_T := T_w 255 (by decide +kernel) (by rfl)
set_option maxRecDepth 20000 in
theorem cl_X7_53 : Cond.classLink RX7 53 RX5 ∈ lw_T := T_w 256 (by decide +kernel) (by rfl)
set_option maxRecDepth 20000 in
theorem is_X5 : Cond.instantiable RX5 12 ∈ lw_T := T_w 257 (by decide +kernel) (by rfl)
set_option maxRecDepth 20000 in
theorem ml_X7_55 : Cond.methodLink RX7 55 yX5_init ∈ lw_T := T_w 258 (by decide +kernel) (by rfl)
set_option maxRecDepth 20000 in
theorem ml_X5_3 : Cond.methodLink RX5 3 objectInit ∈ lw_T := T_w 261 (by decide +kernel) (by rfl)
set_option maxRecDepth 20000 in
theorem fl_X5_41 : Cond.fieldLink RX5 41 "SneakPaths$Walk" "found" "I" ∈ lw_T := T_w 262 (by decide +kernel) (by rfl)
set_option maxRecDepth 20000 in
theorem fl_X7_164 : Cond.fieldLink RX7 164 "SneakPaths$Walk" "found" "I" ∈ lw_T := T_w 263 (by decide +kernel) (by rfl)
set_option maxRecDepth 20000 in
theorem fl_X5_68 : Cond.fieldLink RX5 68 "SneakPaths$Walk" "bits" "I" ∈ lw_T := T_w 264 (by decide +kernel) (by rfl)
set_option maxRecDepth 20000 in
theorem fl_X7_167 : Cond.fieldLink RX7 167 "SneakPaths$Walk" "bits" "I" ∈ lw_T := T_w 265 (by decide +kernel) (by rfl)
set_option maxRecDepth 20000 in
theorem fl_X5_71 : Cond.fieldLink RX5 71 "SneakPaths$Walk" "length" "I" ∈ lw_T := T_w 266 (by decide +kernel) (by rfl)
set_option maxRecDepth 20000 in
theorem fl_X7_170 : Cond.fieldLink RX7 170 "SneakPaths$Walk" "length" "I" ∈ lw_T := T_w 267 (by decide +kernel) (by rfl)
set_option maxRecDepth 20000 in
theorem fl_X5_74 : Cond.fieldLink RX5 74 "SneakPaths$Walk" "shut" "I" ∈ lw_T := T_w 268 (by decide +kernel) (by rfl)
set_option maxRecDepth 20000 in
theorem fl_X7_171 : Cond.fieldLink RX7 171 "SneakPaths$Walk" "shut" "I" ∈ lw_T := T_w 269 (by decide +kernel) (by rfl)
set_option maxRecDepth 20000 in
theorem fl_X5_44 : Cond.fieldLink RX5 44 "SneakPaths$Walk" "fewest" "I" ∈ lw_T := T_w 270 (by decide +kernel) (by rfl)
set_option maxRecDepth 20000 in
theorem fl_X7_177 : Cond.fieldLink RX7 177 "SneakPaths$Walk" "fewest" "I" ∈ lw_T := T_w 271 (by decide +kernel) (by rfl)
set_option maxRecDepth 20000 in
theorem fl_X5_9 : Cond.fieldLink RX5 9 "SneakPaths$Walk" "shortestTrail" "[I" ∈ lw_T := T_w 272 (by decide +kernel) (by rfl)
set_option maxRecDepth 20000 in
theorem fl_X7_180 : Cond.fieldLink RX7 180 "SneakPaths$Walk" "shortestTrail" "[I" ∈ lw_T := T_w 273 (by decide +kernel) (by rfl)
set_option maxRecDepth 20000 in
theorem fl_X5_18 : Cond.fieldLink RX5 18 "SneakPaths$Walk" "plan" "LSneakPaths$Net;" ∈ lw_T := T_w 274 (by decide +kernel) (by rfl)
set_option maxRecDepth 20000 in
theorem fl_X5_22 : Cond.fieldLink RX5 22 "SneakPaths$Walk" "ways" "LSneakPaths$Ways;" ∈ lw_T := T_w 275 (by decide +kernel) (by rfl)
set_option maxRecDepth 20000 in
theorem fl_X5_15 : Cond.fieldLink RX5 15 "SneakPaths$Walk" "trail" "[I" ∈ lw_T := T_w 276 (by decide +kernel) (by rfl)
set_option maxRecDepth 20000 in
theorem fl_X5_31 : Cond.fieldLink RX5 31 "SneakPaths$Walk" "goal" "I" ∈ lw_T := T_w 277 (by decide +kernel) (by rfl)
set_option maxRecDepth 20000 in
theorem fl_X5_35 : Cond.fieldLink RX5 35 "SneakPaths$Walk" "wantedPath" "I" ∈ lw_T := T_w 278 (by decide +kernel) (by rfl)
set_option maxRecDepth 20000 in
theorem fl_X5_38 : Cond.fieldLink RX5 38 "SneakPaths$Walk" "wantedState" "I" ∈ lw_T := T_w 279 (by decide +kernel) (by rfl)
set_option maxRecDepth 20000 in
theorem fl_X7_10 : Cond.fieldLink RX7 10 "SneakPaths" "reader" "LSneakPaths$Reader;" ∈ lw_T := T_w 306 (by decide +kernel) (by rfl)
set_option maxRecDepth 20000 in
theorem fl_X7_19 : Cond.fieldLink RX7 19 "SneakPaths" "plan" "LSneakPaths$Net;" ∈ lw_T := T_w 307 (by decide +kernel) (by rfl)
set_option maxRecDepth 20000 in
theorem fl_X7_26 : Cond.fieldLink RX7 26 "SneakPaths" "now" "LSneakPaths$Setting;" ∈ lw_T := T_w 308 (by decide +kernel) (by rfl)
set_option maxRecDepth 20000 in
theorem fl_X7_33 : Cond.fieldLink RX7 33 "SneakPaths" "history" "LSneakPaths$History;" ∈ lw_T := T_w 309 (by decide +kernel) (by rfl)
set_option maxRecDepth 20000 in
theorem fl_X7_40 : Cond.fieldLink RX7 40 "SneakPaths" "seen" "LSneakPaths$Seen;" ∈ lw_T := T_w 310 (by decide +kernel) (by rfl)
set_option maxRecDepth 20000 in
theorem fl_X7_49 : Cond.fieldLink RX7 49 "SneakPaths" "ways" "LSneakPaths$Ways;" ∈ lw_T := T_w 311 (by decide +kernel) (by rfl)
set_option maxRecDepth 20000 in
theorem fl_X7_58 : Cond.fieldLink RX7 58 "SneakPaths" "walk" "LSneakPaths$Walk;" ∈ lw_T := T_w 312 (by decide +kernel) (by rfl)
set_option maxRecDepth 20000 in
theorem fl_X7_62 : Cond.fieldLink RX7 62 "SneakPaths" "images" "[LSneakPaths$Setting;" ∈ lw_T := T_w 313 (by decide +kernel) (by rfl)
set_option maxRecDepth 20000 in
theorem fl_X7_66 : Cond.fieldLink RX7 66 "SneakPaths" "kept" "[Z" ∈ lw_T := T_w 314 (by decide +kernel) (by rfl)
set_option maxRecDepth 20000 in
theorem fl_X7_70 : Cond.fieldLink RX7 70 "SneakPaths" "missingBefore" "[I" ∈ lw_T := T_w 315 (by decide +kernel) (by rfl)
set_option maxRecDepth 20000 in
theorem ml_L_13 : Cond.methodLink RL 13 yX7_type ∈ lw_T := T_w 337 (by decide +kernel) (by rfl)
set_option maxRecDepth 20000 in
theorem ml_X7_74 : Cond.methodLink RX7 74 yX2_append ∈ lw_T := T_w 341 (by decide +kernel) (by rfl)
set_option maxRecDepth 20000 in
theorem ml_L_18 : Cond.methodLink RL 18 yX7_clear ∈ lw_T := T_w 345 (by decide +kernel) (by rfl)
set_option maxRecDepth 20000 in
theorem ml_L_23 : Cond.methodLink RL 23 yX7_net ∈ lw_T := T_w 349 (by decide +kernel) (by rfl)
set_option maxRecDepth 20000 in
theorem ml_X7_82 : Cond.methodLink RX7 82 yX2_read ∈ lw_T := T_w 353 (by decide +kernel) (by rfl)
set_option maxRecDepth 20000 in
theorem ml_X2_26 : Cond.methodLink RX2 26 yX1_reset ∈ lw_T := T_w 357 (by decide +kernel) (by rfl)
set_option maxRecDepth 20000 in
theorem ml_X2_32 : Cond.methodLink RX2 32 yX2_nextToken ∈ lw_T := T_w 361 (by decide +kernel) (by rfl)
set_option maxRecDepth 20000 in
theorem ml_X2_86 : Cond.methodLink RX2 86 yX2_letterAt ∈ lw_T := T_w 365 (by decide +kernel) (by rfl)
set_option maxRecDepth 20000 in
theorem ml_X2_83 : Cond.methodLink RX2 83 yX2_isDigit ∈ lw_T := T_w 369 (by decide +kernel) (by rfl)
set_option maxRecDepth 20000 in
theorem ml_X2_38 : Cond.methodLink RX2 38 yX2_readItem ∈ lw_T := T_w 372 (by decide +kernel) (by rfl)
set_option maxRecDepth 20000 in
theorem ml_X2_45 : Cond.methodLink RX2 45 yX2_readNodes ∈ lw_T := T_w 376 (by decide +kernel) (by rfl)
set_option maxRecDepth 20000 in
theorem ml_X2_56 : Cond.methodLink RX2 56 yX2_readNumber ∈ lw_T := T_w 380 (by decide +kernel) (by rfl)
set_option maxRecDepth 20000 in
theorem ml_X2_63 : Cond.methodLink RX2 63 yX2_readSemicolon ∈ lw_T := T_w 384 (by decide +kernel) (by rfl)
set_option maxRecDepth 20000 in
theorem ml_X2_49 : Cond.methodLink RX2 49 yX2_readContact ∈ lw_T := T_w 388 (by decide +kernel) (by rfl)
set_option maxRecDepth 20000 in
theorem ml_X2_69 : Cond.methodLink RX2 69 yX1_addContact ∈ lw_T := T_w 392 (by decide +kernel) (by rfl)
set_option maxRecDepth 20000 in
theorem ml_X2_53 : Cond.methodLink RX2 53 yX2_readLoad ∈ lw_T := T_w 396 (by decide +kernel) (by rfl)
set_option maxRecDepth 20000 in
theorem ml_X2_76 : Cond.methodLink RX2 76 yX1_hasLoadAt ∈ lw_T := T_w 400 (by decide +kernel) (by rfl)
set_option maxRecDepth 20000 in
theorem ml_X2_79 : Cond.methodLink RX2 79 yX1_addLoad ∈ lw_T := T_w 404 (by decide +kernel) (by rfl)
set_option maxRecDepth 20000 in
theorem ml_X7_89 : Cond.methodLink RX7 89 yX1_takeFrom ∈ lw_T := T_w 408 (by decide +kernel) (by rfl)
set_option maxRecDepth 20000 in
theorem ml_X1_37 : Cond.methodLink RX1 37 arraycopyName ∈ lw_T := T_w 412 (by decide +kernel) (by rfl)
set_option maxRecDepth 20000 in
theorem static_arraycopy : Cond.static arraycopyName ∈ lw_T := T_w 413 (by decide +kernel) (by rfl)
set_option maxRecDepth 20000 in
theorem native_arraycopy : Cond.native arraycopyName ∈ lw_T := T_w 414 (by decide +kernel) (by rfl)
set_option maxRecDepth 20000 in
theorem ml_X7_93 : Cond.methodLink RX7 93 yX4_reset ∈ lw_T := T_w 415 (by decide +kernel) (by rfl)
set_option maxRecDepth 20000 in
theorem ml_X7_102 : Cond.methodLink RX7 102 yX7_wishWhatIsFed ∈ lw_T := T_w 416 (by decide +kernel) (by rfl)
set_option maxRecDepth 20000 in
theorem ml_X7_157 : Cond.methodLink RX7 157 yX6_layAll ∈ lw_T := T_w 420 (by decide +kernel) (by rfl)
set_option maxRecDepth 20000 in
theorem ml_X6_50 : Cond.methodLink RX6 50 yX6_layOne ∈ lw_T := T_w 424 (by decide +kernel) (by rfl)
set_option maxRecDepth 20000 in
theorem co_X6_54 : Cond.constant RX6 54 (65535) ∈ lw_T := T_w 428 (by decide +kernel) (by rfl)
set_option maxRecDepth 20000 in
theorem ml_X6_61 : Cond.methodLink RX6 61 yX6_shutBy ∈ lw_T := T_w 429 (by decide +kernel) (by rfl)
set_option maxRecDepth 20000 in
theorem ml_X7_217 : Cond.methodLink RX7 217 yX6_spread ∈ lw_T := T_w 434 (by decide +kernel) (by rfl)
set_option maxRecDepth 20000 in
theorem ml_X6_75 : Cond.methodLink RX6 75 yX6_spreadOver ∈ lw_T := T_w 438 (by decide +kernel) (by rfl)
set_option maxRecDepth 20000 in
theorem ml_X6_85 : Cond.methodLink RX6 85 yX6_flow ∈ lw_T := T_w 442 (by decide +kernel) (by rfl)
set_option maxRecDepth 20000 in
theorem ml_X7_242 : Cond.methodLink RX7 242 yX6_fed ∈ lw_T := T_w 446 (by decide +kernel) (by rfl)
set_option maxRecDepth 20000 in
theorem ml_L_27 : Cond.methodLink RL 27 yX7_contact ∈ lw_T := T_w 450 (by decide +kernel) (by rfl)
set_option maxRecDepth 20000 in
theorem ml_X7_105 : Cond.methodLink RX7 105 yX7_isContact ∈ lw_T := T_w 454 (by decide +kernel) (by rfl)
set_option maxRecDepth 20000 in
theorem ml_L_32 : Cond.methodLink RL 32 yX7_load ∈ lw_T := T_w 458 (by decide +kernel) (by rfl)
set_option maxRecDepth 20000 in
theorem ml_X7_129 : Cond.methodLink RX7 129 yX7_isLoad ∈ lw_T := T_w 462 (by decide +kernel) (by rfl)
set_option maxRecDepth 20000 in
theorem ml_X7_135 : Cond.methodLink RX7 135 yX7_fedNow ∈ lw_T := T_w 466 (by decide +kernel) (by rfl)
set_option maxRecDepth 20000 in
theorem ml_X7_142 : Cond.methodLink RX7 142 yX7_howManyPaths ∈ lw_T := T_w 470 (by decide +kernel) (by rfl)
set_option maxRecDepth 20000 in
theorem ml_X7_160 : Cond.methodLink RX7 160 yX5_run ∈ lw_T := T_w 474 (by decide +kernel) (by rfl)
set_option maxRecDepth 20000 in
theorem co_X5_47 : Cond.constant RX5 47 (65535) ∈ lw_T := T_w 478 (by decide +kernel) (by rfl)
set_option maxRecDepth 20000 in
theorem ml_X5_48 : Cond.methodLink RX5 48 yX5_goOn ∈ lw_T := T_w 479 (by decide +kernel) (by rfl)
set_option maxRecDepth 20000 in
theorem ml_X5_52 : Cond.methodLink RX5 52 yX5_arrive ∈ lw_T := T_w 483 (by decide +kernel) (by rfl)
set_option maxRecDepth 20000 in
theorem ml_X5_76 : Cond.methodLink RX5 76 arraycopyName ∈ lw_T := T_w 487 (by decide +kernel) (by rfl)
set_option maxRecDepth 20000 in
theorem ml_X5_59 : Cond.methodLink RX5 59 yX6_nodeBehind ∈ lw_T := T_w 488 (by decide +kernel) (by rfl)
set_option maxRecDepth 20000 in
theorem ml_L_36 : Cond.methodLink RL 36 yX7_wishes ∈ lw_T := T_w 492 (by decide +kernel) (by rfl)
set_option maxRecDepth 20000 in
theorem co_X7_145 : Cond.constant RX7 145 (65535) ∈ lw_T := T_w 496 (by decide +kernel) (by rfl)
set_option maxRecDepth 20000 in
theorem ml_X7_146 : Cond.methodLink RX7 146 yX0_note ∈ lw_T := T_w 497 (by decide +kernel) (by rfl)
set_option maxRecDepth 20000 in
theorem ml_X0_28 : Cond.methodLink RX0 28 yX0_dropOldest ∈ lw_T := T_w 501 (by decide +kernel) (by rfl)
set_option maxRecDepth 20000 in
theorem ml_X0_45 : Cond.methodLink RX0 45 arraycopyName ∈ lw_T := T_w 505 (by decide +kernel) (by rfl)
set_option maxRecDepth 20000 in
theorem ml_L_40 : Cond.methodLink RL 40 yX7_cures ∈ lw_T := T_w 506 (by decide +kernel) (by rfl)
set_option maxRecDepth 20000 in
theorem ml_X7_150 : Cond.methodLink RX7 150 yX7_choicesOfSwitch ∈ lw_T := T_w 510 (by decide +kernel) (by rfl)
set_option maxRecDepth 20000 in
theorem ml_L_45 : Cond.methodLink RL 45 yX7_sticks ∈ lw_T := T_w 513 (by decide +kernel) (by rfl)
set_option maxRecDepth 20000 in
theorem ml_L_49 : Cond.methodLink RL 49 yX7_undo ∈ lw_T := T_w 517 (by decide +kernel) (by rfl)
set_option maxRecDepth 20000 in
theorem ml_X7_153 : Cond.methodLink RX7 153 yX0_takeBack ∈ lw_T := T_w 521 (by decide +kernel) (by rfl)
set_option maxRecDepth 20000 in
theorem ml_L_53 : Cond.methodLink RL 53 yX7_path ∈ lw_T := T_w 525 (by decide +kernel) (by rfl)
set_option maxRecDepth 20000 in
theorem ml_L_57 : Cond.methodLink RL 57 yX7_shortest ∈ lw_T := T_w 529 (by decide +kernel) (by rfl)
set_option maxRecDepth 20000 in
theorem ml_X7_174 : Cond.methodLink RX7 174 yX7_isState ∈ lw_T := T_w 533 (by decide +kernel) (by rfl)
set_option maxRecDepth 20000 in
theorem ml_L_61 : Cond.methodLink RL 61 yX7_parting ∈ lw_T := T_w 536 (by decide +kernel) (by rfl)
set_option maxRecDepth 20000 in
theorem ml_X7_186 : Cond.methodLink RX7 186 yJ6_bitCount_0f7a4 ∈ lw_T := T_w 540 (by decide +kernel) (by rfl)
set_option maxRecDepth 20000 in
theorem co_J6_265 : Cond.constant RJ6 265 (1431655765) ∈ lw_T := T_w 543 (by decide +kernel) (by rfl)
set_option maxRecDepth 20000 in
theorem co_J6_266 : Cond.constant RJ6 266 (858993459) ∈ lw_T := T_w 544 (by decide +kernel) (by rfl)
set_option maxRecDepth 20000 in
theorem co_J6_267 : Cond.constant RJ6 267 (252645135) ∈ lw_T := T_w 545 (by decide +kernel) (by rfl)
set_option maxRecDepth 20000 in
theorem ml_X7_191 : Cond.methodLink RX7 191 yX6_feedsWithout ∈ lw_T := T_w 546 (by decide +kernel) (by rfl)
set_option maxRecDepth 20000 in
theorem ml_X6_92 : Cond.methodLink RX6 92 yX6_spread ∈ lw_T := T_w 550 (by decide +kernel) (by rfl)
set_option maxRecDepth 20000 in
theorem ml_X6_95 : Cond.methodLink RX6 95 yX6_fed ∈ lw_T := T_w 551 (by decide +kernel) (by rfl)
set_option maxRecDepth 20000 in
theorem ml_L_65 : Cond.methodLink RL 65 yX7_enough ∈ lw_T := T_w 552 (by decide +kernel) (by rfl)
set_option maxRecDepth 20000 in
theorem ml_X7_195 : Cond.methodLink RX7 195 yX7_noteMissing ∈ lw_T := T_w 556 (by decide +kernel) (by rfl)
set_option maxRecDepth 20000 in
theorem ml_X7_198 : Cond.methodLink RX7 198 yX7_isEnough ∈ lw_T := T_w 560 (by decide +kernel) (by rfl)
set_option maxRecDepth 20000 in
theorem ml_X7_214 : Cond.methodLink RX7 214 yX6_layOne ∈ lw_T := T_w 564 (by decide +kernel) (by rfl)
set_option maxRecDepth 20000 in
theorem ml_L_69 : Cond.methodLink RL 69 yX7_flash ∈ lw_T := T_w 565 (by decide +kernel) (by rfl)
set_option maxRecDepth 20000 in
theorem ml_X7_201 : Cond.methodLink RX7 201 yX7_hasBit ∈ lw_T := T_w 569 (by decide +kernel) (by rfl)
set_option maxRecDepth 20000 in
theorem ml_L_73 : Cond.methodLink RL 73 yX7_odds ∈ lw_T := T_w 572 (by decide +kernel) (by rfl)
set_option maxRecDepth 20000 in
theorem ml_X7_205 : Cond.methodLink RX7 205 yX7_weight ∈ lw_T := T_w 576 (by decide +kernel) (by rfl)
set_option maxRecDepth 20000 in
theorem ml_X7_209 : Cond.methodLink RX7 209 yX7_commonDivisor ∈ lw_T := T_w 579 (by decide +kernel) (by rfl)
set_option maxRecDepth 20000 in
theorem ml_L_78 : Cond.methodLink RL 78 yX7_sees ∈ lw_T := T_w 582 (by decide +kernel) (by rfl)
set_option maxRecDepth 20000 in
theorem ml_X7_212 : Cond.methodLink RX7 212 yX3_append ∈ lw_T := T_w 586 (by decide +kernel) (by rfl)
set_option maxRecDepth 20000 in
theorem ml_L_82 : Cond.methodLink RL 82 yX7_forget ∈ lw_T := T_w 590 (by decide +kernel) (by rfl)
set_option maxRecDepth 20000 in
theorem ml_L_86 : Cond.methodLink RL 86 yX7_unseen ∈ lw_T := T_w 594 (by decide +kernel) (by rfl)
set_option maxRecDepth 20000 in
theorem ml_X7_221 : Cond.methodLink RX7 221 yX3_agrees ∈ lw_T := T_w 598 (by decide +kernel) (by rfl)
set_option maxRecDepth 20000 in
theorem ml_X3_25 : Cond.methodLink RX3 25 yX6_fed ∈ lw_T := T_w 602 (by decide +kernel) (by rfl)
set_option maxRecDepth 20000 in
theorem ml_L_90 : Cond.methodLink RL 90 yX7_keep ∈ lw_T := T_w 603 (by decide +kernel) (by rfl)
set_option maxRecDepth 20000 in
theorem ml_X7_225 : Cond.methodLink RX7 225 yX7_isImage ∈ lw_T := T_w 607 (by decide +kernel) (by rfl)
set_option maxRecDepth 20000 in
theorem ml_X7_228 : Cond.methodLink RX7 228 yX4_takeFrom ∈ lw_T := T_w 610 (by decide +kernel) (by rfl)
set_option maxRecDepth 20000 in
theorem ml_X4_27 : Cond.methodLink RX4 27 arraycopyName ∈ lw_T := T_w 614 (by decide +kernel) (by rfl)
set_option maxRecDepth 20000 in
theorem ml_L_94 : Cond.methodLink RL 94 yX7_back ∈ lw_T := T_w 615 (by decide +kernel) (by rfl)
set_option maxRecDepth 20000 in
theorem ml_L_98 : Cond.methodLink RL 98 yX7_count ∈ lw_T := T_w 619 (by decide +kernel) (by rfl)
set_option maxRecDepth 20000 in
theorem ml_X7_236 : Cond.methodLink RX7 236 yX7_loadsThatSneak ∈ lw_T := T_w 623 (by decide +kernel) (by rfl)
set_option maxRecDepth 20000 in
theorem ml_X7_239 : Cond.methodLink RX7 239 yX7_loadsThatMiss ∈ lw_T := T_w 627 (by decide +kernel) (by rfl)
set_option maxRecDepth 20000 in
theorem cl_L_10 : Cond.classLink RL 10 RX8 ∈ lw_T := T_w 631 (by decide +kernel) (by rfl)
set_option maxRecDepth 20000 in
theorem is_X8 : Cond.instantiable RX8 24 ∈ lw_T := T_w 632 (by decide +kernel) (by rfl)
set_option maxRecDepth 20000 in
theorem ml_L_12 : Cond.methodLink RL 12 yX8_init ∈ lw_T := T_w 633 (by decide +kernel) (by rfl)
set_option maxRecDepth 20000 in
theorem ml_X8_1 : Cond.methodLink RX8 1 objectInit ∈ lw_T := T_w 636 (by decide +kernel) (by rfl)
set_option maxRecDepth 20000 in
theorem ml_X8_53 : Cond.methodLink RX8 53 yX8_begins ∈ lw_T := T_w 637 (by decide +kernel) (by rfl)
set_option maxRecDepth 20000 in
theorem ml_X8_56 : Cond.methodLink RX8 56 yX8_settles ∈ lw_T := T_w 641 (by decide +kernel) (by rfl)
set_option maxRecDepth 20000 in
theorem ml_X8_121 : Cond.methodLink RX8 121 yX8_fedIn ∈ lw_T := T_w 645 (by decide +kernel) (by rfl)
set_option maxRecDepth 20000 in
theorem ml_X8_144 : Cond.methodLink RX8 144 yX8_isFed ∈ lw_T := T_w 649 (by decide +kernel) (by rfl)
set_option maxRecDepth 20000 in
theorem ml_X8_140 : Cond.methodLink RX8 140 yX8_live ∈ lw_T := T_w 653 (by decide +kernel) (by rfl)
set_option maxRecDepth 20000 in
theorem ml_X8_130 : Cond.methodLink RX8 130 yX8_has ∈ lw_T := T_w 657 (by decide +kernel) (by rfl)
set_option maxRecDepth 20000 in
theorem ml_X8_133 : Cond.methodLink RX8 133 yX8_isShut ∈ lw_T := T_w 660 (by decide +kernel) (by rfl)
set_option maxRecDepth 20000 in
theorem ml_X8_136 : Cond.methodLink RX8 136 yX8_isWay ∈ lw_T := T_w 664 (by decide +kernel) (by rfl)
set_option maxRecDepth 20000 in
theorem fl_X8_59 : Cond.fieldLink RX8 59 "SneakPathsModel" "thrown" "I" ∈ lw_T := T_w 668 (by decide +kernel) (by rfl)
set_option maxRecDepth 20000 in
theorem fl_X8_7 : Cond.fieldLink RX8 7 "SneakPathsModel" "text" "[I" ∈ lw_T := T_w 669 (by decide +kernel) (by rfl)
set_option maxRecDepth 20000 in
theorem fl_X8_67 : Cond.fieldLink RX8 67 "SneakPathsModel" "typed" "I" ∈ lw_T := T_w 670 (by decide +kernel) (by rfl)
set_option maxRecDepth 20000 in
theorem fl_X8_70 : Cond.fieldLink RX8 70 "SneakPathsModel" "spot" "I" ∈ lw_T := T_w 671 (by decide +kernel) (by rfl)
set_option maxRecDepth 20000 in
theorem fl_X8_80 : Cond.fieldLink RX8 80 "SneakPathsModel" "token" "I" ∈ lw_T := T_w 672 (by decide +kernel) (by rfl)
set_option maxRecDepth 20000 in
theorem fl_X8_77 : Cond.fieldLink RX8 77 "SneakPathsModel" "place" "I" ∈ lw_T := T_w 673 (by decide +kernel) (by rfl)
set_option maxRecDepth 20000 in
theorem fl_X8_83 : Cond.fieldLink RX8 83 "SneakPathsModel" "value" "I" ∈ lw_T := T_w 674 (by decide +kernel) (by rfl)
set_option maxRecDepth 20000 in
theorem fl_X8_90 : Cond.fieldLink RX8 90 "SneakPathsModel" "fault" "I" ∈ lw_T := T_w 675 (by decide +kernel) (by rfl)
set_option maxRecDepth 20000 in
theorem fl_X8_13 : Cond.fieldLink RX8 13 "SneakPathsModel" "told" "[I" ∈ lw_T := T_w 676 (by decide +kernel) (by rfl)
set_option maxRecDepth 20000 in
theorem fl_X8_16 : Cond.fieldLink RX8 16 "SneakPathsModel" "draft" "[I" ∈ lw_T := T_w 677 (by decide +kernel) (by rfl)
set_option maxRecDepth 20000 in
theorem fl_X8_19 : Cond.fieldLink RX8 19 "SneakPathsModel" "s" "[I" ∈ lw_T := T_w 678 (by decide +kernel) (by rfl)
set_option maxRecDepth 20000 in
theorem fl_X8_22 : Cond.fieldLink RX8 22 "SneakPathsModel" "undos" "[I" ∈ lw_T := T_w 679 (by decide +kernel) (by rfl)
set_option maxRecDepth 20000 in
theorem fl_X8_127 : Cond.fieldLink RX8 127 "SneakPathsModel" "undoMany" "I" ∈ lw_T := T_w 680 (by decide +kernel) (by rfl)
set_option maxRecDepth 20000 in
theorem fl_X8_25 : Cond.fieldLink RX8 25 "SneakPathsModel" "kept" "[I" ∈ lw_T := T_w 681 (by decide +kernel) (by rfl)
set_option maxRecDepth 20000 in
theorem fl_X8_28 : Cond.fieldLink RX8 28 "SneakPathsModel" "isKept" "[Z" ∈ lw_T := T_w 682 (by decide +kernel) (by rfl)
set_option maxRecDepth 20000 in
theorem fl_X8_32 : Cond.fieldLink RX8 32 "SneakPathsModel" "seenLoad" "[I" ∈ lw_T := T_w 683 (by decide +kernel) (by rfl)
set_option maxRecDepth 20000 in
theorem fl_X8_35 : Cond.fieldLink RX8 35 "SneakPathsModel" "seenState" "[I" ∈ lw_T := T_w 684 (by decide +kernel) (by rfl)
set_option maxRecDepth 20000 in
theorem fl_X8_38 : Cond.fieldLink RX8 38 "SneakPathsModel" "seenFed" "[I" ∈ lw_T := T_w 685 (by decide +kernel) (by rfl)
set_option maxRecDepth 20000 in
theorem fl_X8_124 : Cond.fieldLink RX8 124 "SneakPathsModel" "seenMany" "I" ∈ lw_T := T_w 686 (by decide +kernel) (by rfl)
set_option maxRecDepth 20000 in
theorem fl_X8_41 : Cond.fieldLink RX8 41 "SneakPathsModel" "step" "[I" ∈ lw_T := T_w 687 (by decide +kernel) (by rfl)
set_option maxRecDepth 20000 in
theorem fl_X8_44 : Cond.fieldLink RX8 44 "SneakPathsModel" "where" "[I" ∈ lw_T := T_w 688 (by decide +kernel) (by rfl)
set_option maxRecDepth 20000 in
theorem fl_X8_160 : Cond.fieldLink RX8 160 "SneakPathsModel" "steps" "I" ∈ lw_T := T_w 689 (by decide +kernel) (by rfl)
set_option maxRecDepth 20000 in
theorem fl_X8_47 : Cond.fieldLink RX8 47 "SneakPathsModel" "best" "[I" ∈ lw_T := T_w 690 (by decide +kernel) (by rfl)
set_option maxRecDepth 20000 in
theorem fl_X8_50 : Cond.fieldLink RX8 50 "SneakPathsModel" "missing" "[I" ∈ lw_T := T_w 691 (by decide +kernel) (by rfl)
set_option maxRecDepth 20000 in
theorem ml_L_17 : Cond.methodLink RL 17 yX8_type ∈ lw_T := T_w 741 (by decide +kernel) (by rfl)
set_option maxRecDepth 20000 in
theorem ml_X8_63 : Cond.methodLink RX8 63 yX8_in ∈ lw_T := T_w 745 (by decide +kernel) (by rfl)
set_option maxRecDepth 20000 in
theorem ml_L_22 : Cond.methodLink RL 22 yX8_clear ∈ lw_T := T_w 748 (by decide +kernel) (by rfl)
set_option maxRecDepth 20000 in
theorem ml_L_26 : Cond.methodLink RL 26 yX8_net ∈ lw_T := T_w 752 (by decide +kernel) (by rfl)
set_option maxRecDepth 20000 in
theorem ml_X8_97 : Cond.methodLink RX8 97 yX8_advances ∈ lw_T := T_w 756 (by decide +kernel) (by rfl)
set_option maxRecDepth 20000 in
theorem ml_X8_73 : Cond.methodLink RX8 73 yX8_letterAt ∈ lw_T := T_w 760 (by decide +kernel) (by rfl)
set_option maxRecDepth 20000 in
theorem ml_X8_86 : Cond.methodLink RX8 86 yX8_isLetter ∈ lw_T := T_w 764 (by decide +kernel) (by rfl)
set_option maxRecDepth 20000 in
theorem ml_X8_93 : Cond.methodLink RX8 93 yX8_isWell ∈ lw_T := T_w 767 (by decide +kernel) (by rfl)
set_option maxRecDepth 20000 in
theorem ml_X8_115 : Cond.methodLink RX8 115 yX8_mayBegin ∈ lw_T := T_w 771 (by decide +kernel) (by rfl)
set_option maxRecDepth 20000 in
theorem ml_X8_104 : Cond.methodLink RX8 104 yX8_takes ∈ lw_T := T_w 775 (by decide +kernel) (by rfl)
set_option maxRecDepth 20000 in
theorem ml_X8_118 : Cond.methodLink RX8 118 yX8_readsItem ∈ lw_T := T_w 779 (by decide +kernel) (by rfl)
set_option maxRecDepth 20000 in
theorem ml_X8_100 : Cond.methodLink RX8 100 yX8_isNumber ∈ lw_T := T_w 783 (by decide +kernel) (by rfl)
set_option maxRecDepth 20000 in
theorem ml_X8_108 : Cond.methodLink RX8 108 yX8_isFreeNode ∈ lw_T := T_w 787 (by decide +kernel) (by rfl)
set_option maxRecDepth 20000 in
theorem ml_X8_111 : Cond.methodLink RX8 111 yX8_readsContact ∈ lw_T := T_w 791 (by decide +kernel) (by rfl)
set_option maxRecDepth 20000 in
theorem ml_L_31 : Cond.methodLink RL 31 yX8_contact ∈ lw_T := T_w 795 (by decide +kernel) (by rfl)
set_option maxRecDepth 20000 in
theorem ml_X8_147 : Cond.methodLink RX8 147 yX8_isContact ∈ lw_T := T_w 799 (by decide +kernel) (by rfl)
set_option maxRecDepth 20000 in
theorem ml_L_35 : Cond.methodLink RL 35 yX8_load ∈ lw_T := T_w 803 (by decide +kernel) (by rfl)
set_option maxRecDepth 20000 in
theorem ml_X8_150 : Cond.methodLink RX8 150 yX8_isLoad ∈ lw_T := T_w 807 (by decide +kernel) (by rfl)
set_option maxRecDepth 20000 in
theorem ml_X8_153 : Cond.methodLink RX8 153 yX8_pathMany ∈ lw_T := T_w 811 (by decide +kernel) (by rfl)
set_option maxRecDepth 20000 in
theorem ml_X8_169 : Cond.methodLink RX8 169 yX8_beginsPath ∈ lw_T := T_w 815 (by decide +kernel) (by rfl)
set_option maxRecDepth 20000 in
theorem ml_X8_172 : Cond.methodLink RX8 172 yX8_nextPath ∈ lw_T := T_w 819 (by decide +kernel) (by rfl)
set_option maxRecDepth 20000 in
theorem ml_X8_163 : Cond.methodLink RX8 163 yX8_toBy ∈ lw_T := T_w 823 (by decide +kernel) (by rfl)
set_option maxRecDepth 20000 in
theorem ml_X8_166 : Cond.methodLink RX8 166 yX8_isOnPath ∈ lw_T := T_w 827 (by decide +kernel) (by rfl)
set_option maxRecDepth 20000 in
theorem ml_L_39 : Cond.methodLink RL 39 yX8_wishes ∈ lw_T := T_w 831 (by decide +kernel) (by rfl)
set_option maxRecDepth 20000 in
theorem co_X8_156 : Cond.constant RX8 156 (65535) ∈ lw_T := T_w 835 (by decide +kernel) (by rfl)
set_option maxRecDepth 20000 in
theorem ml_X8_157 : Cond.methodLink RX8 157 yX8_notes ∈ lw_T := T_w 836 (by decide +kernel) (by rfl)
set_option maxRecDepth 20000 in
theorem ml_L_44 : Cond.methodLink RL 44 yX8_cures ∈ lw_T := T_w 840 (by decide +kernel) (by rfl)
set_option maxRecDepth 20000 in
theorem ml_L_48 : Cond.methodLink RL 48 yX8_sticks ∈ lw_T := T_w 844 (by decide +kernel) (by rfl)
set_option maxRecDepth 20000 in
theorem ml_L_52 : Cond.methodLink RL 52 yX8_undo ∈ lw_T := T_w 848 (by decide +kernel) (by rfl)
set_option maxRecDepth 20000 in
theorem ml_L_56 : Cond.methodLink RL 56 yX8_path ∈ lw_T := T_w 852 (by decide +kernel) (by rfl)
set_option maxRecDepth 20000 in
theorem ml_X8_175 : Cond.methodLink RX8 175 yX8_shutIn ∈ lw_T := T_w 856 (by decide +kernel) (by rfl)
set_option maxRecDepth 20000 in
theorem ml_L_60 : Cond.methodLink RL 60 yX8_shortest ∈ lw_T := T_w 860 (by decide +kernel) (by rfl)
set_option maxRecDepth 20000 in
theorem ml_X8_179 : Cond.methodLink RX8 179 yX8_isState ∈ lw_T := T_w 864 (by decide +kernel) (by rfl)
set_option maxRecDepth 20000 in
theorem ml_L_64 : Cond.methodLink RL 64 yX8_parting ∈ lw_T := T_w 867 (by decide +kernel) (by rfl)
set_option maxRecDepth 20000 in
theorem ml_X8_182 : Cond.methodLink RX8 182 yX8_ones ∈ lw_T := T_w 871 (by decide +kernel) (by rfl)
set_option maxRecDepth 20000 in
theorem ml_L_68 : Cond.methodLink RL 68 yX8_enough ∈ lw_T := T_w 874 (by decide +kernel) (by rfl)
set_option maxRecDepth 20000 in
theorem ml_X8_185 : Cond.methodLink RX8 185 yX8_isEnough ∈ lw_T := T_w 878 (by decide +kernel) (by rfl)
set_option maxRecDepth 20000 in
theorem ml_L_72 : Cond.methodLink RL 72 yX8_flash ∈ lw_T := T_w 882 (by decide +kernel) (by rfl)
set_option maxRecDepth 20000 in
theorem ml_L_77 : Cond.methodLink RL 77 yX8_odds ∈ lw_T := T_w 886 (by decide +kernel) (by rfl)
set_option maxRecDepth 20000 in
theorem co_X8_189 : Cond.constantLong RX8 189 (10) ∈ lw_T := T_w 890 (by decide +kernel) (by rfl)
set_option maxRecDepth 20000 in
theorem ml_X8_191 : Cond.methodLink RX8 191 yX8_gcd ∈ lw_T := T_w 891 (by decide +kernel) (by rfl)
set_option maxRecDepth 20000 in
theorem ml_L_81 : Cond.methodLink RL 81 yX8_sees ∈ lw_T := T_w 894 (by decide +kernel) (by rfl)
set_option maxRecDepth 20000 in
theorem ml_L_85 : Cond.methodLink RL 85 yX8_forget ∈ lw_T := T_w 898 (by decide +kernel) (by rfl)
set_option maxRecDepth 20000 in
theorem ml_L_89 : Cond.methodLink RL 89 yX8_unseen ∈ lw_T := T_w 902 (by decide +kernel) (by rfl)
set_option maxRecDepth 20000 in
theorem ml_L_93 : Cond.methodLink RL 93 yX8_keep ∈ lw_T := T_w 906 (by decide +kernel) (by rfl)
set_option maxRecDepth 20000 in
theorem ml_L_97 : Cond.methodLink RL 97 yX8_back ∈ lw_T := T_w 910 (by decide +kernel) (by rfl)
set_option maxRecDepth 20000 in
theorem ml_L_101 : Cond.methodLink RL 101 yX8_count ∈ lw_T := T_w 914 (by decide +kernel) (by rfl)
set_option maxRecDepth 20000 in
theorem Y_X7_init : Yn yX7_init cX7_init 1 0 := ⟨T_w 64 (by rfl) (by rfl), T_w 63 (by decide +kernel) (by rfl), T_w 49 (by decide +kernel) (by rfl), rfl, ⟨by decide +kernel, by decide +kernel, by decide +kernel⟩⟩
set_option maxRecDepth 20000 in
theorem Y_X2_init : Yn yX2_init cX2_init 1 0 := ⟨T_w 72 (by rfl) (by rfl), T_w 71 (by decide +kernel) (by rfl), T_w 50 (by decide +kernel) (by rfl), rfl, ⟨by decide +kernel, by decide +kernel, by decide +kernel⟩⟩
set_option maxRecDepth 20000 in
theorem Y_X1_init : Yn yX1_init cX1_init 1 0 := ⟨T_w 78 (by rfl) (by rfl), T_w 77 (by decide +kernel) (by rfl), T_w 51 (by decide +kernel) (by rfl), rfl, ⟨by decide +kernel, by decide +kernel, by decide +kernel⟩⟩
set_option maxRecDepth 20000 in
theorem Y_X4_init : Yn yX4_init cX4_init 1 0 := ⟨T_w 153 (by rfl) (by rfl), T_w 152 (by decide +kernel) (by rfl), T_w 52 (by decide +kernel) (by rfl), rfl, ⟨by decide +kernel, by decide +kernel, by decide +kernel⟩⟩
set_option maxRecDepth 20000 in
theorem Y_X4_reset : Yv yX4_reset cX4_reset 2 (none) 0 := ⟨T_w 158 (by rfl) (by rfl), T_w 156 (by decide +kernel) (by rfl), T_w 157 (by decide +kernel) (by rfl), T_w 52 (by decide +kernel) (by rfl), ⟨by decide +kernel, by decide +kernel, by decide +kernel⟩⟩
set_option maxRecDepth 20000 in
theorem Y_X0_init : Yn yX0_init cX0_init 1 0 := ⟨T_w 187 (by rfl) (by rfl), T_w 186 (by decide +kernel) (by rfl), T_w 53 (by decide +kernel) (by rfl), rfl, ⟨by decide +kernel, by decide +kernel, by decide +kernel⟩⟩
set_option maxRecDepth 20000 in
theorem Y_X3_init : Yn yX3_init cX3_init 1 0 := ⟨T_w 210 (by rfl) (by rfl), T_w 209 (by decide +kernel) (by rfl), T_w 54 (by decide +kernel) (by rfl), rfl, ⟨by decide +kernel, by decide +kernel, by decide +kernel⟩⟩
set_option maxRecDepth 20000 in
theorem Y_X6_init : Yn yX6_init cX6_init 3 2 := ⟨T_w 230 (by rfl) (by rfl), T_w 229 (by decide +kernel) (by rfl), T_w 55 (by decide +kernel) (by rfl), rfl, ⟨by decide +kernel, by decide +kernel, by decide +kernel⟩⟩
set_option maxRecDepth 20000 in
theorem Y_X5_init : Yn yX5_init cX5_init 3 2 := ⟨T_w 260 (by rfl) (by rfl), T_w 259 (by decide +kernel) (by rfl), T_w 56 (by decide +kernel) (by rfl), rfl, ⟨by decide +kernel, by decide +kernel, by decide +kernel⟩⟩
set_option maxRecDepth 20000 in
theorem Y_X7_type : Yv yX7_type cX7_type 2 (some .int) 1 := ⟨T_w 340 (by rfl) (by rfl), T_w 338 (by decide +kernel) (by rfl), T_w 339 (by decide +kernel) (by rfl), T_w 49 (by decide +kernel) (by rfl), ⟨by decide +kernel, by decide +kernel, by decide +kernel⟩⟩
set_option maxRecDepth 20000 in
theorem Y_X2_append : Yv yX2_append cX2_append 2 (some .boolean) 1 := ⟨T_w 344 (by rfl) (by rfl), T_w 342 (by decide +kernel) (by rfl), T_w 343 (by decide +kernel) (by rfl), T_w 50 (by decide +kernel) (by rfl), ⟨by decide +kernel, by decide +kernel, by decide +kernel⟩⟩
set_option maxRecDepth 20000 in
theorem Y_X7_clear : Yv yX7_clear cX7_clear 2 (some .int) 0 := ⟨T_w 348 (by rfl) (by rfl), T_w 346 (by decide +kernel) (by rfl), T_w 347 (by decide +kernel) (by rfl), T_w 49 (by decide +kernel) (by rfl), ⟨by decide +kernel, by decide +kernel, by decide +kernel⟩⟩
set_option maxRecDepth 20000 in
theorem Y_X7_net : Yv yX7_net cX7_net 3 (some .int) 0 := ⟨T_w 352 (by rfl) (by rfl), T_w 350 (by decide +kernel) (by rfl), T_w 351 (by decide +kernel) (by rfl), T_w 49 (by decide +kernel) (by rfl), ⟨by decide +kernel, by decide +kernel, by decide +kernel⟩⟩
set_option maxRecDepth 20000 in
theorem Y_X2_read : Yv yX2_read cX2_read 2 (some .int) 0 := ⟨T_w 356 (by rfl) (by rfl), T_w 354 (by decide +kernel) (by rfl), T_w 355 (by decide +kernel) (by rfl), T_w 50 (by decide +kernel) (by rfl), ⟨by decide +kernel, by decide +kernel, by decide +kernel⟩⟩
set_option maxRecDepth 20000 in
theorem Y_X1_reset : Yv yX1_reset cX1_reset 1 (none) 0 := ⟨T_w 360 (by rfl) (by rfl), T_w 358 (by decide +kernel) (by rfl), T_w 359 (by decide +kernel) (by rfl), T_w 51 (by decide +kernel) (by rfl), ⟨by decide +kernel, by decide +kernel, by decide +kernel⟩⟩
set_option maxRecDepth 20000 in
theorem Y_X2_nextToken : Yv yX2_nextToken cX2_nextToken 2 (none) 0 := ⟨T_w 364 (by rfl) (by rfl), T_w 363 (by decide +kernel) (by rfl), T_w 0 (by decide +kernel) (by rfl), T_w 50 (by decide +kernel) (by rfl), ⟨by decide +kernel, by decide +kernel, by decide +kernel⟩⟩
set_option maxRecDepth 20000 in
theorem Y_X2_letterAt : Yv yX2_letterAt cX2_letterAt 2 (some .int) 1 := ⟨T_w 368 (by rfl) (by rfl), T_w 367 (by decide +kernel) (by rfl), T_w 1 (by decide +kernel) (by rfl), T_w 50 (by decide +kernel) (by rfl), ⟨by decide +kernel, by decide +kernel, by decide +kernel⟩⟩
set_option maxRecDepth 20000 in
theorem Y_X2_isDigit : Ys yX2_isDigit cX2_isDigit 1 (some .boolean) 1 := ⟨T_w 371 (by rfl) (by rfl), T_w 370 (by decide +kernel) (by rfl), T_w 50 (by decide +kernel) (by rfl), ⟨by decide +kernel, by decide +kernel, by decide +kernel⟩⟩
set_option maxRecDepth 20000 in
theorem Y_X2_readItem : Yv yX2_readItem cX2_readItem 2 (some .boolean) 1 := ⟨T_w 375 (by rfl) (by rfl), T_w 374 (by decide +kernel) (by rfl), T_w 2 (by decide +kernel) (by rfl), T_w 50 (by decide +kernel) (by rfl), ⟨by decide +kernel, by decide +kernel, by decide +kernel⟩⟩
set_option maxRecDepth 20000 in
theorem Y_X2_readNodes : Yv yX2_readNodes cX2_readNodes 2 (some .boolean) 0 := ⟨T_w 379 (by rfl) (by rfl), T_w 378 (by decide +kernel) (by rfl), T_w 3 (by decide +kernel) (by rfl), T_w 50 (by decide +kernel) (by rfl), ⟨by decide +kernel, by decide +kernel, by decide +kernel⟩⟩
set_option maxRecDepth 20000 in
theorem Y_X2_readNumber : Yv yX2_readNumber cX2_readNumber 4 (some .int) 2 := ⟨T_w 383 (by rfl) (by rfl), T_w 382 (by decide +kernel) (by rfl), T_w 4 (by decide +kernel) (by rfl), T_w 50 (by decide +kernel) (by rfl), ⟨by decide +kernel, by decide +kernel, by decide +kernel⟩⟩
set_option maxRecDepth 20000 in
theorem Y_X2_readSemicolon : Yv yX2_readSemicolon cX2_readSemicolon 1 (some .boolean) 0 := ⟨T_w 387 (by rfl) (by rfl), T_w 386 (by decide +kernel) (by rfl), T_w 5 (by decide +kernel) (by rfl), T_w 50 (by decide +kernel) (by rfl), ⟨by decide +kernel, by decide +kernel, by decide +kernel⟩⟩
set_option maxRecDepth 20000 in
theorem Y_X2_readContact : Yv yX2_readContact cX2_readContact 5 (some .boolean) 1 := ⟨T_w 391 (by rfl) (by rfl), T_w 390 (by decide +kernel) (by rfl), T_w 6 (by decide +kernel) (by rfl), T_w 50 (by decide +kernel) (by rfl), ⟨by decide +kernel, by decide +kernel, by decide +kernel⟩⟩
set_option maxRecDepth 20000 in
theorem Y_X1_addContact : Yv yX1_addContact cX1_addContact 5 (none) 4 := ⟨T_w 395 (by rfl) (by rfl), T_w 393 (by decide +kernel) (by rfl), T_w 394 (by decide +kernel) (by rfl), T_w 51 (by decide +kernel) (by rfl), ⟨by decide +kernel, by decide +kernel, by decide +kernel⟩⟩
set_option maxRecDepth 20000 in
theorem Y_X2_readLoad : Yv yX2_readLoad cX2_readLoad 2 (some .boolean) 0 := ⟨T_w 399 (by rfl) (by rfl), T_w 398 (by decide +kernel) (by rfl), T_w 7 (by decide +kernel) (by rfl), T_w 50 (by decide +kernel) (by rfl), ⟨by decide +kernel, by decide +kernel, by decide +kernel⟩⟩
set_option maxRecDepth 20000 in
theorem Y_X1_hasLoadAt : Yv yX1_hasLoadAt cX1_hasLoadAt 3 (some .boolean) 1 := ⟨T_w 403 (by rfl) (by rfl), T_w 401 (by decide +kernel) (by rfl), T_w 402 (by decide +kernel) (by rfl), T_w 51 (by decide +kernel) (by rfl), ⟨by decide +kernel, by decide +kernel, by decide +kernel⟩⟩
set_option maxRecDepth 20000 in
theorem Y_X1_addLoad : Yv yX1_addLoad cX1_addLoad 2 (none) 1 := ⟨T_w 407 (by rfl) (by rfl), T_w 405 (by decide +kernel) (by rfl), T_w 406 (by decide +kernel) (by rfl), T_w 51 (by decide +kernel) (by rfl), ⟨by decide +kernel, by decide +kernel, by decide +kernel⟩⟩
set_option maxRecDepth 20000 in
theorem Y_X1_takeFrom : Yv yX1_takeFrom cX1_takeFrom 2 (none) 1 := ⟨T_w 411 (by rfl) (by rfl), T_w 409 (by decide +kernel) (by rfl), T_w 410 (by decide +kernel) (by rfl), T_w 51 (by decide +kernel) (by rfl), ⟨by decide +kernel, by decide +kernel, by decide +kernel⟩⟩
set_option maxRecDepth 20000 in
theorem Y_X7_wishWhatIsFed : Yv yX7_wishWhatIsFed cX7_wishWhatIsFed 2 (none) 0 := ⟨T_w 419 (by rfl) (by rfl), T_w 418 (by decide +kernel) (by rfl), T_w 8 (by decide +kernel) (by rfl), T_w 49 (by decide +kernel) (by rfl), ⟨by decide +kernel, by decide +kernel, by decide +kernel⟩⟩
set_option maxRecDepth 20000 in
theorem Y_X6_layAll : Yv yX6_layAll cX6_layAll 2 (none) 0 := ⟨T_w 423 (by rfl) (by rfl), T_w 421 (by decide +kernel) (by rfl), T_w 422 (by decide +kernel) (by rfl), T_w 55 (by decide +kernel) (by rfl), ⟨by decide +kernel, by decide +kernel, by decide +kernel⟩⟩
set_option maxRecDepth 20000 in
theorem Y_X6_layOne : Yv yX6_layOne cX6_layOne 6 (none) 4 := ⟨T_w 427 (by rfl) (by rfl), T_w 425 (by decide +kernel) (by rfl), T_w 426 (by decide +kernel) (by rfl), T_w 55 (by decide +kernel) (by rfl), ⟨by decide +kernel, by decide +kernel, by decide +kernel⟩⟩
set_option maxRecDepth 20000 in
theorem Y_X6_shutBy : Ys yX6_shutBy cX6_shutBy 3 (some .int) 2 := ⟨T_w 431 (by rfl) (by rfl), T_w 430 (by decide +kernel) (by rfl), T_w 55 (by decide +kernel) (by rfl), ⟨by decide +kernel, by decide +kernel, by decide +kernel⟩⟩
set_option maxRecDepth 20000 in
theorem Y_X6_spread : Yv yX6_spread cX6_spread 4 (none) 1 := ⟨T_w 437 (by rfl) (by rfl), T_w 435 (by decide +kernel) (by rfl), T_w 436 (by decide +kernel) (by rfl), T_w 55 (by decide +kernel) (by rfl), ⟨by decide +kernel, by decide +kernel, by decide +kernel⟩⟩
set_option maxRecDepth 20000 in
theorem Y_X6_spreadOver : Yv yX6_spreadOver cX6_spreadOver 4 (none) 1 := ⟨T_w 441 (by rfl) (by rfl), T_w 440 (by decide +kernel) (by rfl), T_w 9 (by decide +kernel) (by rfl), T_w 55 (by decide +kernel) (by rfl), ⟨by decide +kernel, by decide +kernel, by decide +kernel⟩⟩
set_option maxRecDepth 20000 in
theorem Y_X6_flow : Yv yX6_flow cX6_flow 5 (none) 3 := ⟨T_w 445 (by rfl) (by rfl), T_w 444 (by decide +kernel) (by rfl), T_w 10 (by decide +kernel) (by rfl), T_w 55 (by decide +kernel) (by rfl), ⟨by decide +kernel, by decide +kernel, by decide +kernel⟩⟩
set_option maxRecDepth 20000 in
theorem Y_X6_fed : Yv yX6_fed cX6_fed 2 (some .int) 1 := ⟨T_w 449 (by rfl) (by rfl), T_w 447 (by decide +kernel) (by rfl), T_w 448 (by decide +kernel) (by rfl), T_w 55 (by decide +kernel) (by rfl), ⟨by decide +kernel, by decide +kernel, by decide +kernel⟩⟩
set_option maxRecDepth 20000 in
theorem Y_X7_contact : Yv yX7_contact cX7_contact 3 (some .int) 2 := ⟨T_w 453 (by rfl) (by rfl), T_w 451 (by decide +kernel) (by rfl), T_w 452 (by decide +kernel) (by rfl), T_w 49 (by decide +kernel) (by rfl), ⟨by decide +kernel, by decide +kernel, by decide +kernel⟩⟩
set_option maxRecDepth 20000 in
theorem Y_X7_isContact : Yv yX7_isContact cX7_isContact 2 (some .boolean) 1 := ⟨T_w 457 (by rfl) (by rfl), T_w 456 (by decide +kernel) (by rfl), T_w 11 (by decide +kernel) (by rfl), T_w 49 (by decide +kernel) (by rfl), ⟨by decide +kernel, by decide +kernel, by decide +kernel⟩⟩
set_option maxRecDepth 20000 in
theorem Y_X7_load : Yv yX7_load cX7_load 3 (some .int) 2 := ⟨T_w 461 (by rfl) (by rfl), T_w 459 (by decide +kernel) (by rfl), T_w 460 (by decide +kernel) (by rfl), T_w 49 (by decide +kernel) (by rfl), ⟨by decide +kernel, by decide +kernel, by decide +kernel⟩⟩
set_option maxRecDepth 20000 in
theorem Y_X7_isLoad : Yv yX7_isLoad cX7_isLoad 2 (some .boolean) 1 := ⟨T_w 465 (by rfl) (by rfl), T_w 464 (by decide +kernel) (by rfl), T_w 12 (by decide +kernel) (by rfl), T_w 49 (by decide +kernel) (by rfl), ⟨by decide +kernel, by decide +kernel, by decide +kernel⟩⟩
set_option maxRecDepth 20000 in
theorem Y_X7_fedNow : Yv yX7_fedNow cX7_fedNow 2 (some .int) 1 := ⟨T_w 469 (by rfl) (by rfl), T_w 468 (by decide +kernel) (by rfl), T_w 13 (by decide +kernel) (by rfl), T_w 49 (by decide +kernel) (by rfl), ⟨by decide +kernel, by decide +kernel, by decide +kernel⟩⟩
set_option maxRecDepth 20000 in
theorem Y_X7_howManyPaths : Yv yX7_howManyPaths cX7_howManyPaths 2 (some .int) 1 := ⟨T_w 473 (by rfl) (by rfl), T_w 472 (by decide +kernel) (by rfl), T_w 14 (by decide +kernel) (by rfl), T_w 49 (by decide +kernel) (by rfl), ⟨by decide +kernel, by decide +kernel, by decide +kernel⟩⟩
set_option maxRecDepth 20000 in
theorem Y_X5_run : Yv yX5_run cX5_run 4 (none) 3 := ⟨T_w 477 (by rfl) (by rfl), T_w 475 (by decide +kernel) (by rfl), T_w 476 (by decide +kernel) (by rfl), T_w 56 (by decide +kernel) (by rfl), ⟨by decide +kernel, by decide +kernel, by decide +kernel⟩⟩
set_option maxRecDepth 20000 in
theorem Y_X5_goOn : Yv yX5_goOn cX5_goOn 8 (none) 5 := ⟨T_w 482 (by rfl) (by rfl), T_w 481 (by decide +kernel) (by rfl), T_w 15 (by decide +kernel) (by rfl), T_w 56 (by decide +kernel) (by rfl), ⟨by decide +kernel, by decide +kernel, by decide +kernel⟩⟩
set_option maxRecDepth 20000 in
theorem Y_X5_arrive : Yv yX5_arrive cX5_arrive 4 (none) 3 := ⟨T_w 486 (by rfl) (by rfl), T_w 485 (by decide +kernel) (by rfl), T_w 16 (by decide +kernel) (by rfl), T_w 56 (by decide +kernel) (by rfl), ⟨by decide +kernel, by decide +kernel, by decide +kernel⟩⟩
set_option maxRecDepth 20000 in
theorem Y_X6_nodeBehind : Yv yX6_nodeBehind cX6_nodeBehind 3 (some .int) 2 := ⟨T_w 491 (by rfl) (by rfl), T_w 489 (by decide +kernel) (by rfl), T_w 490 (by decide +kernel) (by rfl), T_w 55 (by decide +kernel) (by rfl), ⟨by decide +kernel, by decide +kernel, by decide +kernel⟩⟩
set_option maxRecDepth 20000 in
theorem Y_X7_wishes : Yv yX7_wishes cX7_wishes 4 (some .int) 2 := ⟨T_w 495 (by rfl) (by rfl), T_w 493 (by decide +kernel) (by rfl), T_w 494 (by decide +kernel) (by rfl), T_w 49 (by decide +kernel) (by rfl), ⟨by decide +kernel, by decide +kernel, by decide +kernel⟩⟩
set_option maxRecDepth 20000 in
theorem Y_X0_note : Yv yX0_note cX0_note 5 (none) 4 := ⟨T_w 500 (by rfl) (by rfl), T_w 498 (by decide +kernel) (by rfl), T_w 499 (by decide +kernel) (by rfl), T_w 53 (by decide +kernel) (by rfl), ⟨by decide +kernel, by decide +kernel, by decide +kernel⟩⟩
set_option maxRecDepth 20000 in
theorem Y_X0_dropOldest : Yv yX0_dropOldest cX0_dropOldest 2 (none) 0 := ⟨T_w 504 (by rfl) (by rfl), T_w 503 (by decide +kernel) (by rfl), T_w 17 (by decide +kernel) (by rfl), T_w 53 (by decide +kernel) (by rfl), ⟨by decide +kernel, by decide +kernel, by decide +kernel⟩⟩
set_option maxRecDepth 20000 in
theorem Y_X7_cures : Yv yX7_cures cX7_cures 6 (some .int) 3 := ⟨T_w 509 (by rfl) (by rfl), T_w 507 (by decide +kernel) (by rfl), T_w 508 (by decide +kernel) (by rfl), T_w 49 (by decide +kernel) (by rfl), ⟨by decide +kernel, by decide +kernel, by decide +kernel⟩⟩
set_option maxRecDepth 20000 in
theorem Y_X7_choicesOfSwitch : Ys yX7_choicesOfSwitch cX7_choicesOfSwitch 1 (some .int) 1 := ⟨T_w 512 (by rfl) (by rfl), T_w 511 (by decide +kernel) (by rfl), T_w 49 (by decide +kernel) (by rfl), ⟨by decide +kernel, by decide +kernel, by decide +kernel⟩⟩
set_option maxRecDepth 20000 in
theorem Y_X7_sticks : Yv yX7_sticks cX7_sticks 4 (some .int) 2 := ⟨T_w 516 (by rfl) (by rfl), T_w 514 (by decide +kernel) (by rfl), T_w 515 (by decide +kernel) (by rfl), T_w 49 (by decide +kernel) (by rfl), ⟨by decide +kernel, by decide +kernel, by decide +kernel⟩⟩
set_option maxRecDepth 20000 in
theorem Y_X7_undo : Yv yX7_undo cX7_undo 1 (some .int) 0 := ⟨T_w 520 (by rfl) (by rfl), T_w 518 (by decide +kernel) (by rfl), T_w 519 (by decide +kernel) (by rfl), T_w 49 (by decide +kernel) (by rfl), ⟨by decide +kernel, by decide +kernel, by decide +kernel⟩⟩
set_option maxRecDepth 20000 in
theorem Y_X0_takeBack : Yv yX0_takeBack cX0_takeBack 3 (none) 1 := ⟨T_w 524 (by rfl) (by rfl), T_w 522 (by decide +kernel) (by rfl), T_w 523 (by decide +kernel) (by rfl), T_w 53 (by decide +kernel) (by rfl), ⟨by decide +kernel, by decide +kernel, by decide +kernel⟩⟩
set_option maxRecDepth 20000 in
theorem Y_X7_path : Yv yX7_path cX7_path 4 (some .int) 3 := ⟨T_w 528 (by rfl) (by rfl), T_w 526 (by decide +kernel) (by rfl), T_w 527 (by decide +kernel) (by rfl), T_w 49 (by decide +kernel) (by rfl), ⟨by decide +kernel, by decide +kernel, by decide +kernel⟩⟩
set_option maxRecDepth 20000 in
theorem Y_X7_shortest : Yv yX7_shortest cX7_shortest 4 (some .int) 3 := ⟨T_w 532 (by rfl) (by rfl), T_w 530 (by decide +kernel) (by rfl), T_w 531 (by decide +kernel) (by rfl), T_w 49 (by decide +kernel) (by rfl), ⟨by decide +kernel, by decide +kernel, by decide +kernel⟩⟩
set_option maxRecDepth 20000 in
theorem Y_X7_isState : Ys yX7_isState cX7_isState 1 (some .boolean) 1 := ⟨T_w 535 (by rfl) (by rfl), T_w 534 (by decide +kernel) (by rfl), T_w 49 (by decide +kernel) (by rfl), ⟨by decide +kernel, by decide +kernel, by decide +kernel⟩⟩
set_option maxRecDepth 20000 in
theorem Y_X7_parting : Yv yX7_parting cX7_parting 8 (some .int) 2 := ⟨T_w 539 (by rfl) (by rfl), T_w 537 (by decide +kernel) (by rfl), T_w 538 (by decide +kernel) (by rfl), T_w 49 (by decide +kernel) (by rfl), ⟨by decide +kernel, by decide +kernel, by decide +kernel⟩⟩
set_option maxRecDepth 20000 in
theorem Y_J6_bitCount_0f7a4 : Ys yJ6_bitCount_0f7a4 cJ6_bitCount_0f7a4 1 (some .int) 1 := ⟨T_w 542 (by rfl) (by rfl), T_w 541 (by decide +kernel) (by rfl), T_w 59 (by decide +kernel) (by rfl), ⟨by decide +kernel, by decide +kernel, by decide +kernel⟩⟩
set_option maxRecDepth 20000 in
theorem Y_X6_feedsWithout : Yv yX6_feedsWithout cX6_feedsWithout 4 (some .boolean) 3 := ⟨T_w 549 (by rfl) (by rfl), T_w 547 (by decide +kernel) (by rfl), T_w 548 (by decide +kernel) (by rfl), T_w 55 (by decide +kernel) (by rfl), ⟨by decide +kernel, by decide +kernel, by decide +kernel⟩⟩
set_option maxRecDepth 20000 in
theorem Y_X7_enough : Yv yX7_enough cX7_enough 7 (some .int) 1 := ⟨T_w 555 (by rfl) (by rfl), T_w 553 (by decide +kernel) (by rfl), T_w 554 (by decide +kernel) (by rfl), T_w 49 (by decide +kernel) (by rfl), ⟨by decide +kernel, by decide +kernel, by decide +kernel⟩⟩
set_option maxRecDepth 20000 in
theorem Y_X7_noteMissing : Yv yX7_noteMissing cX7_noteMissing 2 (none) 0 := ⟨T_w 559 (by rfl) (by rfl), T_w 558 (by decide +kernel) (by rfl), T_w 18 (by decide +kernel) (by rfl), T_w 49 (by decide +kernel) (by rfl), ⟨by decide +kernel, by decide +kernel, by decide +kernel⟩⟩
set_option maxRecDepth 20000 in
theorem Y_X7_isEnough : Yv yX7_isEnough cX7_isEnough 9 (some .boolean) 3 := ⟨T_w 563 (by rfl) (by rfl), T_w 562 (by decide +kernel) (by rfl), T_w 19 (by decide +kernel) (by rfl), T_w 49 (by decide +kernel) (by rfl), ⟨by decide +kernel, by decide +kernel, by decide +kernel⟩⟩
set_option maxRecDepth 20000 in
theorem Y_X7_flash : Yv yX7_flash cX7_flash 8 (some .int) 3 := ⟨T_w 568 (by rfl) (by rfl), T_w 566 (by decide +kernel) (by rfl), T_w 567 (by decide +kernel) (by rfl), T_w 49 (by decide +kernel) (by rfl), ⟨by decide +kernel, by decide +kernel, by decide +kernel⟩⟩
set_option maxRecDepth 20000 in
theorem Y_X7_hasBit : Ys yX7_hasBit cX7_hasBit 2 (some .boolean) 2 := ⟨T_w 571 (by rfl) (by rfl), T_w 570 (by decide +kernel) (by rfl), T_w 49 (by decide +kernel) (by rfl), ⟨by decide +kernel, by decide +kernel, by decide +kernel⟩⟩
set_option maxRecDepth 20000 in
theorem Y_X7_odds : Yv yX7_odds cX7_odds 9 (some .int) 4 := ⟨T_w 575 (by rfl) (by rfl), T_w 573 (by decide +kernel) (by rfl), T_w 574 (by decide +kernel) (by rfl), T_w 49 (by decide +kernel) (by rfl), ⟨by decide +kernel, by decide +kernel, by decide +kernel⟩⟩
set_option maxRecDepth 20000 in
theorem Y_X7_weight : Ys yX7_weight cX7_weight 4 (some .int) 2 := ⟨T_w 578 (by rfl) (by rfl), T_w 577 (by decide +kernel) (by rfl), T_w 49 (by decide +kernel) (by rfl), ⟨by decide +kernel, by decide +kernel, by decide +kernel⟩⟩
set_option maxRecDepth 20000 in
theorem Y_X7_commonDivisor : Ys yX7_commonDivisor cX7_commonDivisor 6 (some .int) 2 := ⟨T_w 581 (by rfl) (by rfl), T_w 580 (by decide +kernel) (by rfl), T_w 49 (by decide +kernel) (by rfl), ⟨by decide +kernel, by decide +kernel, by decide +kernel⟩⟩
set_option maxRecDepth 20000 in
theorem Y_X7_sees : Yv yX7_sees cX7_sees 4 (some .int) 3 := ⟨T_w 585 (by rfl) (by rfl), T_w 583 (by decide +kernel) (by rfl), T_w 584 (by decide +kernel) (by rfl), T_w 49 (by decide +kernel) (by rfl), ⟨by decide +kernel, by decide +kernel, by decide +kernel⟩⟩
set_option maxRecDepth 20000 in
theorem Y_X3_append : Yv yX3_append cX3_append 4 (some .boolean) 3 := ⟨T_w 589 (by rfl) (by rfl), T_w 587 (by decide +kernel) (by rfl), T_w 588 (by decide +kernel) (by rfl), T_w 54 (by decide +kernel) (by rfl), ⟨by decide +kernel, by decide +kernel, by decide +kernel⟩⟩
set_option maxRecDepth 20000 in
theorem Y_X7_forget : Yv yX7_forget cX7_forget 2 (some .int) 0 := ⟨T_w 593 (by rfl) (by rfl), T_w 591 (by decide +kernel) (by rfl), T_w 592 (by decide +kernel) (by rfl), T_w 49 (by decide +kernel) (by rfl), ⟨by decide +kernel, by decide +kernel, by decide +kernel⟩⟩
set_option maxRecDepth 20000 in
theorem Y_X7_unseen : Yv yX7_unseen cX7_unseen 4 (some .int) 1 := ⟨T_w 597 (by rfl) (by rfl), T_w 595 (by decide +kernel) (by rfl), T_w 596 (by decide +kernel) (by rfl), T_w 49 (by decide +kernel) (by rfl), ⟨by decide +kernel, by decide +kernel, by decide +kernel⟩⟩
set_option maxRecDepth 20000 in
theorem Y_X3_agrees : Yv yX3_agrees cX3_agrees 3 (some .boolean) 1 := ⟨T_w 601 (by rfl) (by rfl), T_w 599 (by decide +kernel) (by rfl), T_w 600 (by decide +kernel) (by rfl), T_w 54 (by decide +kernel) (by rfl), ⟨by decide +kernel, by decide +kernel, by decide +kernel⟩⟩
set_option maxRecDepth 20000 in
theorem Y_X7_keep : Yv yX7_keep cX7_keep 2 (some .int) 1 := ⟨T_w 606 (by rfl) (by rfl), T_w 604 (by decide +kernel) (by rfl), T_w 605 (by decide +kernel) (by rfl), T_w 49 (by decide +kernel) (by rfl), ⟨by decide +kernel, by decide +kernel, by decide +kernel⟩⟩
set_option maxRecDepth 20000 in
theorem Y_X7_isImage : Ys yX7_isImage cX7_isImage 1 (some .boolean) 1 := ⟨T_w 609 (by rfl) (by rfl), T_w 608 (by decide +kernel) (by rfl), T_w 49 (by decide +kernel) (by rfl), ⟨by decide +kernel, by decide +kernel, by decide +kernel⟩⟩
set_option maxRecDepth 20000 in
theorem Y_X4_takeFrom : Yv yX4_takeFrom cX4_takeFrom 2 (none) 1 := ⟨T_w 613 (by rfl) (by rfl), T_w 611 (by decide +kernel) (by rfl), T_w 612 (by decide +kernel) (by rfl), T_w 52 (by decide +kernel) (by rfl), ⟨by decide +kernel, by decide +kernel, by decide +kernel⟩⟩
set_option maxRecDepth 20000 in
theorem Y_X7_back : Yv yX7_back cX7_back 2 (some .int) 1 := ⟨T_w 618 (by rfl) (by rfl), T_w 616 (by decide +kernel) (by rfl), T_w 617 (by decide +kernel) (by rfl), T_w 49 (by decide +kernel) (by rfl), ⟨by decide +kernel, by decide +kernel, by decide +kernel⟩⟩
set_option maxRecDepth 20000 in
theorem Y_X7_count : Yv yX7_count cX7_count 2 (some .int) 1 := ⟨T_w 622 (by rfl) (by rfl), T_w 620 (by decide +kernel) (by rfl), T_w 621 (by decide +kernel) (by rfl), T_w 49 (by decide +kernel) (by rfl), ⟨by decide +kernel, by decide +kernel, by decide +kernel⟩⟩
set_option maxRecDepth 20000 in
theorem Y_X7_loadsThatSneak : Yv yX7_loadsThatSneak cX7_loadsThatSneak 3 (some .int) 0 := ⟨T_w 626 (by rfl) (by rfl), T_w 625 (by decide +kernel) (by rfl), T_w 20 (by decide +kernel) (by rfl), T_w 49 (by decide +kernel) (by rfl), ⟨by decide +kernel, by decide +kernel, by decide +kernel⟩⟩
set_option maxRecDepth 20000 in
theorem Y_X7_loadsThatMiss : Yv yX7_loadsThatMiss cX7_loadsThatMiss 3 (some .int) 0 := ⟨T_w 630 (by rfl) (by rfl), T_w 629 (by decide +kernel) (by rfl), T_w 21 (by decide +kernel) (by rfl), T_w 49 (by decide +kernel) (by rfl), ⟨by decide +kernel, by decide +kernel, by decide +kernel⟩⟩
set_option maxRecDepth 20000 in
theorem Y_X8_init : Yn yX8_init cX8_init 1 0 := ⟨T_w 635 (by rfl) (by rfl), T_w 634 (by decide +kernel) (by rfl), T_w 57 (by decide +kernel) (by rfl), rfl, ⟨by decide +kernel, by decide +kernel, by decide +kernel⟩⟩
set_option maxRecDepth 20000 in
theorem Y_X8_begins : Yv yX8_begins cX8_begins 2 (none) 0 := ⟨T_w 640 (by rfl) (by rfl), T_w 639 (by decide +kernel) (by rfl), T_w 22 (by decide +kernel) (by rfl), T_w 57 (by decide +kernel) (by rfl), ⟨by decide +kernel, by decide +kernel, by decide +kernel⟩⟩
set_option maxRecDepth 20000 in
theorem Y_X8_settles : Yv yX8_settles cX8_settles 2 (none) 0 := ⟨T_w 644 (by rfl) (by rfl), T_w 643 (by decide +kernel) (by rfl), T_w 23 (by decide +kernel) (by rfl), T_w 57 (by decide +kernel) (by rfl), ⟨by decide +kernel, by decide +kernel, by decide +kernel⟩⟩
set_option maxRecDepth 20000 in
theorem Y_X8_fedIn : Yv yX8_fedIn cX8_fedIn 4 (some .int) 1 := ⟨T_w 648 (by rfl) (by rfl), T_w 647 (by decide +kernel) (by rfl), T_w 24 (by decide +kernel) (by rfl), T_w 57 (by decide +kernel) (by rfl), ⟨by decide +kernel, by decide +kernel, by decide +kernel⟩⟩
set_option maxRecDepth 20000 in
theorem Y_X8_isFed : Yv yX8_isFed cX8_isFed 4 (some .boolean) 3 := ⟨T_w 652 (by rfl) (by rfl), T_w 651 (by decide +kernel) (by rfl), T_w 25 (by decide +kernel) (by rfl), T_w 57 (by decide +kernel) (by rfl), ⟨by decide +kernel, by decide +kernel, by decide +kernel⟩⟩
set_option maxRecDepth 20000 in
theorem Y_X8_live : Yv yX8_live cX8_live 8 (some .int) 2 := ⟨T_w 656 (by rfl) (by rfl), T_w 655 (by decide +kernel) (by rfl), T_w 26 (by decide +kernel) (by rfl), T_w 57 (by decide +kernel) (by rfl), ⟨by decide +kernel, by decide +kernel, by decide +kernel⟩⟩
set_option maxRecDepth 20000 in
theorem Y_X8_has : Ys yX8_has cX8_has 2 (some .boolean) 2 := ⟨T_w 659 (by rfl) (by rfl), T_w 658 (by decide +kernel) (by rfl), T_w 57 (by decide +kernel) (by rfl), ⟨by decide +kernel, by decide +kernel, by decide +kernel⟩⟩
set_option maxRecDepth 20000 in
theorem Y_X8_isShut : Yv yX8_isShut cX8_isShut 6 (some .boolean) 2 := ⟨T_w 663 (by rfl) (by rfl), T_w 662 (by decide +kernel) (by rfl), T_w 27 (by decide +kernel) (by rfl), T_w 57 (by decide +kernel) (by rfl), ⟨by decide +kernel, by decide +kernel, by decide +kernel⟩⟩
set_option maxRecDepth 20000 in
theorem Y_X8_isWay : Yv yX8_isWay cX8_isWay 3 (some .boolean) 2 := ⟨T_w 667 (by rfl) (by rfl), T_w 666 (by decide +kernel) (by rfl), T_w 28 (by decide +kernel) (by rfl), T_w 57 (by decide +kernel) (by rfl), ⟨by decide +kernel, by decide +kernel, by decide +kernel⟩⟩
set_option maxRecDepth 20000 in
theorem Y_X8_type : Yv yX8_type cX8_type 2 (some .int) 1 := ⟨T_w 744 (by rfl) (by rfl), T_w 742 (by decide +kernel) (by rfl), T_w 743 (by decide +kernel) (by rfl), T_w 57 (by decide +kernel) (by rfl), ⟨by decide +kernel, by decide +kernel, by decide +kernel⟩⟩
set_option maxRecDepth 20000 in
theorem Y_X8_in : Ys yX8_in cX8_in 3 (some .boolean) 3 := ⟨T_w 747 (by rfl) (by rfl), T_w 746 (by decide +kernel) (by rfl), T_w 57 (by decide +kernel) (by rfl), ⟨by decide +kernel, by decide +kernel, by decide +kernel⟩⟩
set_option maxRecDepth 20000 in
theorem Y_X8_clear : Yv yX8_clear cX8_clear 2 (some .int) 0 := ⟨T_w 751 (by rfl) (by rfl), T_w 749 (by decide +kernel) (by rfl), T_w 750 (by decide +kernel) (by rfl), T_w 57 (by decide +kernel) (by rfl), ⟨by decide +kernel, by decide +kernel, by decide +kernel⟩⟩
set_option maxRecDepth 20000 in
theorem Y_X8_net : Yv yX8_net cX8_net 3 (some .int) 0 := ⟨T_w 755 (by rfl) (by rfl), T_w 753 (by decide +kernel) (by rfl), T_w 754 (by decide +kernel) (by rfl), T_w 57 (by decide +kernel) (by rfl), ⟨by decide +kernel, by decide +kernel, by decide +kernel⟩⟩
set_option maxRecDepth 20000 in
theorem Y_X8_advances : Yv yX8_advances cX8_advances 2 (none) 0 := ⟨T_w 759 (by rfl) (by rfl), T_w 758 (by decide +kernel) (by rfl), T_w 29 (by decide +kernel) (by rfl), T_w 57 (by decide +kernel) (by rfl), ⟨by decide +kernel, by decide +kernel, by decide +kernel⟩⟩
set_option maxRecDepth 20000 in
theorem Y_X8_letterAt : Yv yX8_letterAt cX8_letterAt 2 (some .int) 1 := ⟨T_w 763 (by rfl) (by rfl), T_w 762 (by decide +kernel) (by rfl), T_w 30 (by decide +kernel) (by rfl), T_w 57 (by decide +kernel) (by rfl), ⟨by decide +kernel, by decide +kernel, by decide +kernel⟩⟩
set_option maxRecDepth 20000 in
theorem Y_X8_isLetter : Ys yX8_isLetter cX8_isLetter 1 (some .boolean) 1 := ⟨T_w 766 (by rfl) (by rfl), T_w 765 (by decide +kernel) (by rfl), T_w 57 (by decide +kernel) (by rfl), ⟨by decide +kernel, by decide +kernel, by decide +kernel⟩⟩
set_option maxRecDepth 20000 in
theorem Y_X8_isWell : Yv yX8_isWell cX8_isWell 1 (some .boolean) 0 := ⟨T_w 770 (by rfl) (by rfl), T_w 769 (by decide +kernel) (by rfl), T_w 31 (by decide +kernel) (by rfl), T_w 57 (by decide +kernel) (by rfl), ⟨by decide +kernel, by decide +kernel, by decide +kernel⟩⟩
set_option maxRecDepth 20000 in
theorem Y_X8_mayBegin : Yv yX8_mayBegin cX8_mayBegin 2 (some .boolean) 1 := ⟨T_w 774 (by rfl) (by rfl), T_w 773 (by decide +kernel) (by rfl), T_w 32 (by decide +kernel) (by rfl), T_w 57 (by decide +kernel) (by rfl), ⟨by decide +kernel, by decide +kernel, by decide +kernel⟩⟩
set_option maxRecDepth 20000 in
theorem Y_X8_takes : Yv yX8_takes cX8_takes 3 (some .int) 1 := ⟨T_w 778 (by rfl) (by rfl), T_w 777 (by decide +kernel) (by rfl), T_w 33 (by decide +kernel) (by rfl), T_w 57 (by decide +kernel) (by rfl), ⟨by decide +kernel, by decide +kernel, by decide +kernel⟩⟩
set_option maxRecDepth 20000 in
theorem Y_X8_readsItem : Yv yX8_readsItem cX8_readsItem 2 (none) 1 := ⟨T_w 782 (by rfl) (by rfl), T_w 781 (by decide +kernel) (by rfl), T_w 34 (by decide +kernel) (by rfl), T_w 57 (by decide +kernel) (by rfl), ⟨by decide +kernel, by decide +kernel, by decide +kernel⟩⟩
set_option maxRecDepth 20000 in
theorem Y_X8_isNumber : Yv yX8_isNumber cX8_isNumber 3 (some .boolean) 2 := ⟨T_w 786 (by rfl) (by rfl), T_w 785 (by decide +kernel) (by rfl), T_w 35 (by decide +kernel) (by rfl), T_w 57 (by decide +kernel) (by rfl), ⟨by decide +kernel, by decide +kernel, by decide +kernel⟩⟩
set_option maxRecDepth 20000 in
theorem Y_X8_isFreeNode : Yv yX8_isFreeNode cX8_isFreeNode 4 (some .boolean) 1 := ⟨T_w 790 (by rfl) (by rfl), T_w 789 (by decide +kernel) (by rfl), T_w 36 (by decide +kernel) (by rfl), T_w 57 (by decide +kernel) (by rfl), ⟨by decide +kernel, by decide +kernel, by decide +kernel⟩⟩
set_option maxRecDepth 20000 in
theorem Y_X8_readsContact : Yv yX8_readsContact cX8_readsContact 4 (none) 1 := ⟨T_w 794 (by rfl) (by rfl), T_w 793 (by decide +kernel) (by rfl), T_w 37 (by decide +kernel) (by rfl), T_w 57 (by decide +kernel) (by rfl), ⟨by decide +kernel, by decide +kernel, by decide +kernel⟩⟩
set_option maxRecDepth 20000 in
theorem Y_X8_contact : Yv yX8_contact cX8_contact 3 (some .int) 2 := ⟨T_w 798 (by rfl) (by rfl), T_w 796 (by decide +kernel) (by rfl), T_w 797 (by decide +kernel) (by rfl), T_w 57 (by decide +kernel) (by rfl), ⟨by decide +kernel, by decide +kernel, by decide +kernel⟩⟩
set_option maxRecDepth 20000 in
theorem Y_X8_isContact : Yv yX8_isContact cX8_isContact 2 (some .boolean) 1 := ⟨T_w 802 (by rfl) (by rfl), T_w 801 (by decide +kernel) (by rfl), T_w 38 (by decide +kernel) (by rfl), T_w 57 (by decide +kernel) (by rfl), ⟨by decide +kernel, by decide +kernel, by decide +kernel⟩⟩
set_option maxRecDepth 20000 in
theorem Y_X8_load : Yv yX8_load cX8_load 5 (some .int) 2 := ⟨T_w 806 (by rfl) (by rfl), T_w 804 (by decide +kernel) (by rfl), T_w 805 (by decide +kernel) (by rfl), T_w 57 (by decide +kernel) (by rfl), ⟨by decide +kernel, by decide +kernel, by decide +kernel⟩⟩
set_option maxRecDepth 20000 in
theorem Y_X8_isLoad : Yv yX8_isLoad cX8_isLoad 2 (some .boolean) 1 := ⟨T_w 810 (by rfl) (by rfl), T_w 809 (by decide +kernel) (by rfl), T_w 39 (by decide +kernel) (by rfl), T_w 57 (by decide +kernel) (by rfl), ⟨by decide +kernel, by decide +kernel, by decide +kernel⟩⟩
set_option maxRecDepth 20000 in
theorem Y_X8_pathMany : Yv yX8_pathMany cX8_pathMany 3 (some .int) 1 := ⟨T_w 814 (by rfl) (by rfl), T_w 813 (by decide +kernel) (by rfl), T_w 40 (by decide +kernel) (by rfl), T_w 57 (by decide +kernel) (by rfl), ⟨by decide +kernel, by decide +kernel, by decide +kernel⟩⟩
set_option maxRecDepth 20000 in
theorem Y_X8_beginsPath : Yv yX8_beginsPath cX8_beginsPath 1 (none) 0 := ⟨T_w 818 (by rfl) (by rfl), T_w 817 (by decide +kernel) (by rfl), T_w 41 (by decide +kernel) (by rfl), T_w 57 (by decide +kernel) (by rfl), ⟨by decide +kernel, by decide +kernel, by decide +kernel⟩⟩
set_option maxRecDepth 20000 in
theorem Y_X8_nextPath : Yv yX8_nextPath cX8_nextPath 4 (some .boolean) 1 := ⟨T_w 822 (by rfl) (by rfl), T_w 821 (by decide +kernel) (by rfl), T_w 42 (by decide +kernel) (by rfl), T_w 57 (by decide +kernel) (by rfl), ⟨by decide +kernel, by decide +kernel, by decide +kernel⟩⟩
set_option maxRecDepth 20000 in
theorem Y_X8_toBy : Yv yX8_toBy cX8_toBy 3 (some .int) 2 := ⟨T_w 826 (by rfl) (by rfl), T_w 825 (by decide +kernel) (by rfl), T_w 43 (by decide +kernel) (by rfl), T_w 57 (by decide +kernel) (by rfl), ⟨by decide +kernel, by decide +kernel, by decide +kernel⟩⟩
set_option maxRecDepth 20000 in
theorem Y_X8_isOnPath : Yv yX8_isOnPath cX8_isOnPath 4 (some .boolean) 1 := ⟨T_w 830 (by rfl) (by rfl), T_w 829 (by decide +kernel) (by rfl), T_w 44 (by decide +kernel) (by rfl), T_w 57 (by decide +kernel) (by rfl), ⟨by decide +kernel, by decide +kernel, by decide +kernel⟩⟩
set_option maxRecDepth 20000 in
theorem Y_X8_wishes : Yv yX8_wishes cX8_wishes 4 (some .int) 2 := ⟨T_w 834 (by rfl) (by rfl), T_w 832 (by decide +kernel) (by rfl), T_w 833 (by decide +kernel) (by rfl), T_w 57 (by decide +kernel) (by rfl), ⟨by decide +kernel, by decide +kernel, by decide +kernel⟩⟩
set_option maxRecDepth 20000 in
theorem Y_X8_notes : Yv yX8_notes cX8_notes 2 (none) 0 := ⟨T_w 839 (by rfl) (by rfl), T_w 838 (by decide +kernel) (by rfl), T_w 45 (by decide +kernel) (by rfl), T_w 57 (by decide +kernel) (by rfl), ⟨by decide +kernel, by decide +kernel, by decide +kernel⟩⟩
set_option maxRecDepth 20000 in
theorem Y_X8_cures : Yv yX8_cures cX8_cures 5 (some .int) 3 := ⟨T_w 843 (by rfl) (by rfl), T_w 841 (by decide +kernel) (by rfl), T_w 842 (by decide +kernel) (by rfl), T_w 57 (by decide +kernel) (by rfl), ⟨by decide +kernel, by decide +kernel, by decide +kernel⟩⟩
set_option maxRecDepth 20000 in
theorem Y_X8_sticks : Yv yX8_sticks cX8_sticks 4 (some .int) 2 := ⟨T_w 847 (by rfl) (by rfl), T_w 845 (by decide +kernel) (by rfl), T_w 846 (by decide +kernel) (by rfl), T_w 57 (by decide +kernel) (by rfl), ⟨by decide +kernel, by decide +kernel, by decide +kernel⟩⟩
set_option maxRecDepth 20000 in
theorem Y_X8_undo : Yv yX8_undo cX8_undo 2 (some .int) 0 := ⟨T_w 851 (by rfl) (by rfl), T_w 849 (by decide +kernel) (by rfl), T_w 850 (by decide +kernel) (by rfl), T_w 57 (by decide +kernel) (by rfl), ⟨by decide +kernel, by decide +kernel, by decide +kernel⟩⟩
set_option maxRecDepth 20000 in
theorem Y_X8_path : Yv yX8_path cX8_path 7 (some .int) 3 := ⟨T_w 855 (by rfl) (by rfl), T_w 853 (by decide +kernel) (by rfl), T_w 854 (by decide +kernel) (by rfl), T_w 57 (by decide +kernel) (by rfl), ⟨by decide +kernel, by decide +kernel, by decide +kernel⟩⟩
set_option maxRecDepth 20000 in
theorem Y_X8_shutIn : Yv yX8_shutIn cX8_shutIn 5 (some .int) 0 := ⟨T_w 859 (by rfl) (by rfl), T_w 858 (by decide +kernel) (by rfl), T_w 46 (by decide +kernel) (by rfl), T_w 57 (by decide +kernel) (by rfl), ⟨by decide +kernel, by decide +kernel, by decide +kernel⟩⟩
set_option maxRecDepth 20000 in
theorem Y_X8_shortest : Yv yX8_shortest cX8_shortest 6 (some .int) 3 := ⟨T_w 863 (by rfl) (by rfl), T_w 861 (by decide +kernel) (by rfl), T_w 862 (by decide +kernel) (by rfl), T_w 57 (by decide +kernel) (by rfl), ⟨by decide +kernel, by decide +kernel, by decide +kernel⟩⟩
set_option maxRecDepth 20000 in
theorem Y_X8_isState : Ys yX8_isState cX8_isState 1 (some .boolean) 1 := ⟨T_w 866 (by rfl) (by rfl), T_w 865 (by decide +kernel) (by rfl), T_w 57 (by decide +kernel) (by rfl), ⟨by decide +kernel, by decide +kernel, by decide +kernel⟩⟩
set_option maxRecDepth 20000 in
theorem Y_X8_parting : Yv yX8_parting cX8_parting 5 (some .int) 2 := ⟨T_w 870 (by rfl) (by rfl), T_w 868 (by decide +kernel) (by rfl), T_w 869 (by decide +kernel) (by rfl), T_w 57 (by decide +kernel) (by rfl), ⟨by decide +kernel, by decide +kernel, by decide +kernel⟩⟩
set_option maxRecDepth 20000 in
theorem Y_X8_ones : Ys yX8_ones cX8_ones 3 (some .int) 1 := ⟨T_w 873 (by rfl) (by rfl), T_w 872 (by decide +kernel) (by rfl), T_w 57 (by decide +kernel) (by rfl), ⟨by decide +kernel, by decide +kernel, by decide +kernel⟩⟩
set_option maxRecDepth 20000 in
theorem Y_X8_enough : Yv yX8_enough cX8_enough 8 (some .int) 1 := ⟨T_w 877 (by rfl) (by rfl), T_w 875 (by decide +kernel) (by rfl), T_w 876 (by decide +kernel) (by rfl), T_w 57 (by decide +kernel) (by rfl), ⟨by decide +kernel, by decide +kernel, by decide +kernel⟩⟩
set_option maxRecDepth 20000 in
theorem Y_X8_isEnough : Yv yX8_isEnough cX8_isEnough 6 (some .boolean) 1 := ⟨T_w 881 (by rfl) (by rfl), T_w 880 (by decide +kernel) (by rfl), T_w 47 (by decide +kernel) (by rfl), T_w 57 (by decide +kernel) (by rfl), ⟨by decide +kernel, by decide +kernel, by decide +kernel⟩⟩
set_option maxRecDepth 20000 in
theorem Y_X8_flash : Yv yX8_flash cX8_flash 8 (some .int) 3 := ⟨T_w 885 (by rfl) (by rfl), T_w 883 (by decide +kernel) (by rfl), T_w 884 (by decide +kernel) (by rfl), T_w 57 (by decide +kernel) (by rfl), ⟨by decide +kernel, by decide +kernel, by decide +kernel⟩⟩
set_option maxRecDepth 20000 in
theorem Y_X8_odds : Yv yX8_odds cX8_odds 13 (some .int) 4 := ⟨T_w 889 (by rfl) (by rfl), T_w 887 (by decide +kernel) (by rfl), T_w 888 (by decide +kernel) (by rfl), T_w 57 (by decide +kernel) (by rfl), ⟨by decide +kernel, by decide +kernel, by decide +kernel⟩⟩
set_option maxRecDepth 20000 in
theorem Y_X8_gcd : Ys yX8_gcd cX8_gcd 10 (some .long) 2 := ⟨T_w 893 (by rfl) (by rfl), T_w 892 (by decide +kernel) (by rfl), T_w 57 (by decide +kernel) (by rfl), ⟨by decide +kernel, by decide +kernel, by decide +kernel⟩⟩
set_option maxRecDepth 20000 in
theorem Y_X8_sees : Yv yX8_sees cX8_sees 4 (some .int) 3 := ⟨T_w 897 (by rfl) (by rfl), T_w 895 (by decide +kernel) (by rfl), T_w 896 (by decide +kernel) (by rfl), T_w 57 (by decide +kernel) (by rfl), ⟨by decide +kernel, by decide +kernel, by decide +kernel⟩⟩
set_option maxRecDepth 20000 in
theorem Y_X8_forget : Yv yX8_forget cX8_forget 2 (some .int) 0 := ⟨T_w 901 (by rfl) (by rfl), T_w 899 (by decide +kernel) (by rfl), T_w 900 (by decide +kernel) (by rfl), T_w 57 (by decide +kernel) (by rfl), ⟨by decide +kernel, by decide +kernel, by decide +kernel⟩⟩
set_option maxRecDepth 20000 in
theorem Y_X8_unseen : Yv yX8_unseen cX8_unseen 7 (some .int) 1 := ⟨T_w 905 (by rfl) (by rfl), T_w 903 (by decide +kernel) (by rfl), T_w 904 (by decide +kernel) (by rfl), T_w 57 (by decide +kernel) (by rfl), ⟨by decide +kernel, by decide +kernel, by decide +kernel⟩⟩
set_option maxRecDepth 20000 in
theorem Y_X8_keep : Yv yX8_keep cX8_keep 3 (some .int) 1 := ⟨T_w 909 (by rfl) (by rfl), T_w 907 (by decide +kernel) (by rfl), T_w 908 (by decide +kernel) (by rfl), T_w 57 (by decide +kernel) (by rfl), ⟨by decide +kernel, by decide +kernel, by decide +kernel⟩⟩
set_option maxRecDepth 20000 in
theorem Y_X8_back : Yv yX8_back cX8_back 3 (some .int) 1 := ⟨T_w 913 (by rfl) (by rfl), T_w 911 (by decide +kernel) (by rfl), T_w 912 (by decide +kernel) (by rfl), T_w 57 (by decide +kernel) (by rfl), ⟨by decide +kernel, by decide +kernel, by decide +kernel⟩⟩
set_option maxRecDepth 20000 in
theorem Y_X8_count : Yv yX8_count cX8_count 5 (some .int) 1 := ⟨T_w 917 (by rfl) (by rfl), T_w 915 (by decide +kernel) (by rfl), T_w 916 (by decide +kernel) (by rfl), T_w 57 (by decide +kernel) (by rfl), ⟨by decide +kernel, by decide +kernel, by decide +kernel⟩⟩
end
section
theorem zz_last_probe : True := trivial
end
