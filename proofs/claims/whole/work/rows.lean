section
-- ===== PART A: goes FIRST, ahead of the names: the tables' words, and 'selects' of the private methods out of them =====
/-- a private method of a class that the tables say can be made, by its rows of tables_1 -/
def lw_okq (q : MethodName × Nat) : Prop := (q.1.cls ≠ "java/lang/invoke/MethodHandle" ∧ q.1.cls ≠ "java/lang/invoke/VarHandle") ∧ Cond.instantiable q.1.cls q.2 ∈ tables_1 ∧ Cond.privateMethod q.1 ∈ tables_1 ∧ Cond.instanceMethod q.1 ∈ tables_1
theorem lw_p0 : lw_okq (⟨"java/lang/Throwable", "fillInStackTrace", "(I)Ljava/lang/Throwable;"⟩, 6) := ⟨⟨by decide +kernel, by decide +kernel⟩, List.mem_of_getElem? (i := 274) (by decide +kernel), List.mem_of_getElem? (i := 272) (by decide +kernel), List.mem_of_getElem? (i := 273) (by decide +kernel)⟩
theorem lw_p1 : lw_okq (⟨"CraneTurns", "needCrane", "(I)V"⟩, 2) := ⟨⟨by decide +kernel, by decide +kernel⟩, List.mem_of_getElem? (i := 17) (by decide +kernel), List.mem_of_getElem? (i := 340) (by decide +kernel), List.mem_of_getElem? (i := 341) (by decide +kernel)⟩
theorem lw_p2 : lw_okq (⟨"CraneTurns$Yard", "floorOf", "(I)I"⟩, 11) := ⟨⟨by decide +kernel, by decide +kernel⟩, List.mem_of_getElem? (i := 25) (by decide +kernel), List.mem_of_getElem? (i := 366) (by decide +kernel), List.mem_of_getElem? (i := 367) (by decide +kernel)⟩
theorem lw_p3 : lw_okq (⟨"CraneTurns$Yard", "ceilingOf", "(I)I"⟩, 11) := ⟨⟨by decide +kernel, by decide +kernel⟩, List.mem_of_getElem? (i := 25) (by decide +kernel), List.mem_of_getElem? (i := 370) (by decide +kernel), List.mem_of_getElem? (i := 371) (by decide +kernel)⟩
theorem lw_p4 : lw_okq (⟨"CraneTurns", "needTrack", "()V"⟩, 2) := ⟨⟨by decide +kernel, by decide +kernel⟩, List.mem_of_getElem? (i := 17) (by decide +kernel), List.mem_of_getElem? (i := 399) (by decide +kernel), List.mem_of_getElem? (i := 400) (by decide +kernel)⟩
theorem lw_p5 : lw_okq (⟨"CraneTurns", "needJob", "(I)V"⟩, 2) := ⟨⟨by decide +kernel, by decide +kernel⟩, List.mem_of_getElem? (i := 17) (by decide +kernel), List.mem_of_getElem? (i := 417) (by decide +kernel), List.mem_of_getElem? (i := 418) (by decide +kernel)⟩
theorem lw_p6 : lw_okq (⟨"CraneTurns$Yard", "passSecondOf", "(I)I"⟩, 11) := ⟨⟨by decide +kernel, by decide +kernel⟩, List.mem_of_getElem? (i := 25) (by decide +kernel), List.mem_of_getElem? (i := 474) (by decide +kernel), List.mem_of_getElem? (i := 475) (by decide +kernel)⟩
theorem lw_p7 : lw_okq (⟨"CraneTurns$Yard", "takeFirst", "(LCraneTurns$Crane;)V"⟩, 11) := ⟨⟨by decide +kernel, by decide +kernel⟩, List.mem_of_getElem? (i := 25) (by decide +kernel), List.mem_of_getElem? (i := 478) (by decide +kernel), List.mem_of_getElem? (i := 479) (by decide +kernel)⟩
theorem lw_p8 : lw_okq (⟨"CraneTurns$Yard", "handleIfThere", "(LCraneTurns$Crane;)V"⟩, 11) := ⟨⟨by decide +kernel, by decide +kernel⟩, List.mem_of_getElem? (i := 25) (by decide +kernel), List.mem_of_getElem? (i := 482) (by decide +kernel), List.mem_of_getElem? (i := 483) (by decide +kernel)⟩
theorem lw_p9 : lw_okq (⟨"CraneTurns$Yard", "liftOn", "(LCraneTurns$Crane;)V"⟩, 11) := ⟨⟨by decide +kernel, by decide +kernel⟩, List.mem_of_getElem? (i := 25) (by decide +kernel), List.mem_of_getElem? (i := 486) (by decide +kernel), List.mem_of_getElem? (i := 487) (by decide +kernel)⟩
theorem lw_p10 : lw_okq (⟨"CraneTurns$Yard", "setOn", "(LCraneTurns$Crane;)V"⟩, 11) := ⟨⟨by decide +kernel, by decide +kernel⟩, List.mem_of_getElem? (i := 25) (by decide +kernel), List.mem_of_getElem? (i := 490) (by decide +kernel), List.mem_of_getElem? (i := 491) (by decide +kernel)⟩
theorem lw_p11 : lw_okq (⟨"CraneTurns$Yard", "moveToward", "(II)V"⟩, 11) := ⟨⟨by decide +kernel, by decide +kernel⟩, List.mem_of_getElem? (i := 25) (by decide +kernel), List.mem_of_getElem? (i := 494) (by decide +kernel), List.mem_of_getElem? (i := 495) (by decide +kernel)⟩
theorem lw_p12 : lw_okq (⟨"CraneTurns$Yard", "placeOutOfTheWay", "(I)I"⟩, 11) := ⟨⟨by decide +kernel, by decide +kernel⟩, List.mem_of_getElem? (i := 25) (by decide +kernel), List.mem_of_getElem? (i := 504) (by decide +kernel), List.mem_of_getElem? (i := 505) (by decide +kernel)⟩
theorem lw_p13 : lw_okq (⟨"CraneTurns$Planner", "extendWay", "(LCraneTurns$Yard;I)V"⟩, 9) := ⟨⟨by decide +kernel, by decide +kernel⟩, List.mem_of_getElem? (i := 174) (by decide +kernel), List.mem_of_getElem? (i := 546) (by decide +kernel), List.mem_of_getElem? (i := 547) (by decide +kernel)⟩
theorem lw_p14 : lw_okq (⟨"CraneTurns$Planner", "tryWay", "(LCraneTurns$Yard;)V"⟩, 9) := ⟨⟨by decide +kernel, by decide +kernel⟩, List.mem_of_getElem? (i := 174) (by decide +kernel), List.mem_of_getElem? (i := 550) (by decide +kernel), List.mem_of_getElem? (i := 551) (by decide +kernel)⟩
theorem lw_p15 : lw_okq (⟨"CraneTurns$Planner", "keepWay", "(I)V"⟩, 9) := ⟨⟨by decide +kernel, by decide +kernel⟩, List.mem_of_getElem? (i := 174) (by decide +kernel), List.mem_of_getElem? (i := 572) (by decide +kernel), List.mem_of_getElem? (i := 573) (by decide +kernel)⟩
def lw_privs_1 : List (MethodName × Nat) := [(⟨"java/lang/Throwable", "fillInStackTrace", "(I)Ljava/lang/Throwable;"⟩, 6), (⟨"CraneTurns", "needCrane", "(I)V"⟩, 2), (⟨"CraneTurns$Yard", "floorOf", "(I)I"⟩, 11), (⟨"CraneTurns$Yard", "ceilingOf", "(I)I"⟩, 11), (⟨"CraneTurns", "needTrack", "()V"⟩, 2), (⟨"CraneTurns", "needJob", "(I)V"⟩, 2), (⟨"CraneTurns$Yard", "passSecondOf", "(I)I"⟩, 11), (⟨"CraneTurns$Yard", "takeFirst", "(LCraneTurns$Crane;)V"⟩, 11), (⟨"CraneTurns$Yard", "handleIfThere", "(LCraneTurns$Crane;)V"⟩, 11), (⟨"CraneTurns$Yard", "liftOn", "(LCraneTurns$Crane;)V"⟩, 11), (⟨"CraneTurns$Yard", "setOn", "(LCraneTurns$Crane;)V"⟩, 11), (⟨"CraneTurns$Yard", "moveToward", "(II)V"⟩, 11), (⟨"CraneTurns$Yard", "placeOutOfTheWay", "(I)I"⟩, 11), (⟨"CraneTurns$Planner", "extendWay", "(LCraneTurns$Yard;I)V"⟩, 9), (⟨"CraneTurns$Planner", "tryWay", "(LCraneTurns$Yard;)V"⟩, 9), (⟨"CraneTurns$Planner", "keepWay", "(I)V"⟩, 9)]
theorem lw_r1 : ∀ q ∈ lw_privs_1, lw_okq q := List.forall_mem_cons.mpr ⟨lw_p0, List.forall_mem_cons.mpr ⟨lw_p1, List.forall_mem_cons.mpr ⟨lw_p2, List.forall_mem_cons.mpr ⟨lw_p3, List.forall_mem_cons.mpr ⟨lw_p4, List.forall_mem_cons.mpr ⟨lw_p5, List.forall_mem_cons.mpr ⟨lw_p6, List.forall_mem_cons.mpr ⟨lw_p7, List.forall_mem_cons.mpr ⟨lw_p8, List.forall_mem_cons.mpr ⟨lw_p9, List.forall_mem_cons.mpr ⟨lw_p10, List.forall_mem_cons.mpr ⟨lw_p11, List.forall_mem_cons.mpr ⟨lw_p12, List.forall_mem_cons.mpr ⟨lw_p13, List.forall_mem_cons.mpr ⟨lw_p14, List.forall_mem_cons.mpr ⟨lw_p15, fun _ h => absurd h List.not_mem_nil⟩⟩⟩⟩⟩⟩⟩⟩⟩⟩⟩⟩⟩⟩⟩⟩
theorem lw_p16 : lw_okq (⟨"CraneTurns$Planner", "isTriedAlready", "(III)Z"⟩, 9) := ⟨⟨by decide +kernel, by decide +kernel⟩, List.mem_of_getElem? (i := 174) (by decide +kernel), List.mem_of_getElem? (i := 577) (by decide +kernel), List.mem_of_getElem? (i := 578) (by decide +kernel)⟩
theorem lw_p17 : lw_okq (⟨"CraneTurnsModel", "throwing", "(ZZZZ)Z"⟩, 13) := ⟨⟨by decide +kernel, by decide +kernel⟩, List.mem_of_getElem? (i := 594) (by decide +kernel), List.mem_of_getElem? (i := 651) (by decide +kernel), List.mem_of_getElem? (i := 652) (by decide +kernel)⟩
theorem lw_p18 : lw_okq (⟨"CraneTurnsModel", "setCrane", "(III)V"⟩, 13) := ⟨⟨by decide +kernel, by decide +kernel⟩, List.mem_of_getElem? (i := 594) (by decide +kernel), List.mem_of_getElem? (i := 655) (by decide +kernel), List.mem_of_getElem? (i := 656) (by decide +kernel)⟩
theorem lw_p19 : lw_okq (⟨"CraneTurnsModel", "isCrane", "(I)Z"⟩, 13) := ⟨⟨by decide +kernel, by decide +kernel⟩, List.mem_of_getElem? (i := 594) (by decide +kernel), List.mem_of_getElem? (i := 663) (by decide +kernel), List.mem_of_getElem? (i := 664) (by decide +kernel)⟩
theorem lw_p20 : lw_okq (⟨"CraneTurnsModel", "ofCrane", "(II)I"⟩, 13) := ⟨⟨by decide +kernel, by decide +kernel⟩, List.mem_of_getElem? (i := 594) (by decide +kernel), List.mem_of_getElem? (i := 667) (by decide +kernel), List.mem_of_getElem? (i := 668) (by decide +kernel)⟩
theorem lw_p21 : lw_okq (⟨"CraneTurnsModel", "setJob", "(III)V"⟩, 13) := ⟨⟨by decide +kernel, by decide +kernel⟩, List.mem_of_getElem? (i := 594) (by decide +kernel), List.mem_of_getElem? (i := 675) (by decide +kernel), List.mem_of_getElem? (i := 676) (by decide +kernel)⟩
theorem lw_p22 : lw_okq (⟨"CraneTurnsModel", "isJob", "(I)Z"⟩, 13) := ⟨⟨by decide +kernel, by decide +kernel⟩, List.mem_of_getElem? (i := 594) (by decide +kernel), List.mem_of_getElem? (i := 683) (by decide +kernel), List.mem_of_getElem? (i := 684) (by decide +kernel)⟩
theorem lw_p23 : lw_okq (⟨"CraneTurnsModel", "ofJob", "(II)I"⟩, 13) := ⟨⟨by decide +kernel, by decide +kernel⟩, List.mem_of_getElem? (i := 594) (by decide +kernel), List.mem_of_getElem? (i := 687) (by decide +kernel), List.mem_of_getElem? (i := 688) (by decide +kernel)⟩
theorem lw_p24 : lw_okq (⟨"CraneTurnsModel", "reaches", "(II)Z"⟩, 13) := ⟨⟨by decide +kernel, by decide +kernel⟩, List.mem_of_getElem? (i := 594) (by decide +kernel), List.mem_of_getElem? (i := 691) (by decide +kernel), List.mem_of_getElem? (i := 692) (by decide +kernel)⟩
theorem lw_p25 : lw_okq (⟨"CraneTurnsModel", "giveTo", "(II)V"⟩, 13) := ⟨⟨by decide +kernel, by decide +kernel⟩, List.mem_of_getElem? (i := 594) (by decide +kernel), List.mem_of_getElem? (i := 695) (by decide +kernel), List.mem_of_getElem? (i := 696) (by decide +kernel)⟩
theorem lw_p26 : lw_okq (⟨"CraneTurnsModel", "secondOfAll", "()V"⟩, 13) := ⟨⟨by decide +kernel, by decide +kernel⟩, List.mem_of_getElem? (i := 594) (by decide +kernel), List.mem_of_getElem? (i := 712) (by decide +kernel), List.mem_of_getElem? (i := 713) (by decide +kernel)⟩
theorem lw_p27 : lw_okq (⟨"CraneTurnsModel", "second", "(I)V"⟩, 13) := ⟨⟨by decide +kernel, by decide +kernel⟩, List.mem_of_getElem? (i := 594) (by decide +kernel), List.mem_of_getElem? (i := 716) (by decide +kernel), List.mem_of_getElem? (i := 717) (by decide +kernel)⟩
theorem lw_p28 : lw_okq (⟨"CraneTurnsModel", "takesJob", "(I)V"⟩, 13) := ⟨⟨by decide +kernel, by decide +kernel⟩, List.mem_of_getElem? (i := 594) (by decide +kernel), List.mem_of_getElem? (i := 720) (by decide +kernel), List.mem_of_getElem? (i := 721) (by decide +kernel)⟩
theorem lw_p29 : lw_okq (⟨"CraneTurnsModel", "firstOf", "(I)I"⟩, 13) := ⟨⟨by decide +kernel, by decide +kernel⟩, List.mem_of_getElem? (i := 594) (by decide +kernel), List.mem_of_getElem? (i := 724) (by decide +kernel), List.mem_of_getElem? (i := 725) (by decide +kernel)⟩
theorem lw_p30 : lw_okq (⟨"CraneTurnsModel", "begins", "(II)V"⟩, 13) := ⟨⟨by decide +kernel, by decide +kernel⟩, List.mem_of_getElem? (i := 594) (by decide +kernel), List.mem_of_getElem? (i := 728) (by decide +kernel), List.mem_of_getElem? (i := 729) (by decide +kernel)⟩
theorem lw_p31 : lw_okq (⟨"CraneTurnsModel", "givesWay", "(I)V"⟩, 13) := ⟨⟨by decide +kernel, by decide +kernel⟩, List.mem_of_getElem? (i := 594) (by decide +kernel), List.mem_of_getElem? (i := 732) (by decide +kernel), List.mem_of_getElem? (i := 733) (by decide +kernel)⟩
def lw_privs_2 : List (MethodName × Nat) := [(⟨"CraneTurns$Planner", "isTriedAlready", "(III)Z"⟩, 9), (⟨"CraneTurnsModel", "throwing", "(ZZZZ)Z"⟩, 13), (⟨"CraneTurnsModel", "setCrane", "(III)V"⟩, 13), (⟨"CraneTurnsModel", "isCrane", "(I)Z"⟩, 13), (⟨"CraneTurnsModel", "ofCrane", "(II)I"⟩, 13), (⟨"CraneTurnsModel", "setJob", "(III)V"⟩, 13), (⟨"CraneTurnsModel", "isJob", "(I)Z"⟩, 13), (⟨"CraneTurnsModel", "ofJob", "(II)I"⟩, 13), (⟨"CraneTurnsModel", "reaches", "(II)Z"⟩, 13), (⟨"CraneTurnsModel", "giveTo", "(II)V"⟩, 13), (⟨"CraneTurnsModel", "secondOfAll", "()V"⟩, 13), (⟨"CraneTurnsModel", "second", "(I)V"⟩, 13), (⟨"CraneTurnsModel", "takesJob", "(I)V"⟩, 13), (⟨"CraneTurnsModel", "firstOf", "(I)I"⟩, 13), (⟨"CraneTurnsModel", "begins", "(II)V"⟩, 13), (⟨"CraneTurnsModel", "givesWay", "(I)V"⟩, 13)]
theorem lw_r2 : ∀ q ∈ lw_privs_2, lw_okq q := List.forall_mem_cons.mpr ⟨lw_p16, List.forall_mem_cons.mpr ⟨lw_p17, List.forall_mem_cons.mpr ⟨lw_p18, List.forall_mem_cons.mpr ⟨lw_p19, List.forall_mem_cons.mpr ⟨lw_p20, List.forall_mem_cons.mpr ⟨lw_p21, List.forall_mem_cons.mpr ⟨lw_p22, List.forall_mem_cons.mpr ⟨lw_p23, List.forall_mem_cons.mpr ⟨lw_p24, List.forall_mem_cons.mpr ⟨lw_p25, List.forall_mem_cons.mpr ⟨lw_p26, List.forall_mem_cons.mpr ⟨lw_p27, List.forall_mem_cons.mpr ⟨lw_p28, List.forall_mem_cons.mpr ⟨lw_p29, List.forall_mem_cons.mpr ⟨lw_p30, List.forall_mem_cons.mpr ⟨lw_p31, fun _ h => absurd h List.not_mem_nil⟩⟩⟩⟩⟩⟩⟩⟩⟩⟩⟩⟩⟩⟩⟩⟩
theorem lw_p32 : lw_okq (⟨"CraneTurnsModel", "hasGoal", "(I)Z"⟩, 13) := ⟨⟨by decide +kernel, by decide +kernel⟩, List.mem_of_getElem? (i := 594) (by decide +kernel), List.mem_of_getElem? (i := 736) (by decide +kernel), List.mem_of_getElem? (i := 737) (by decide +kernel)⟩
theorem lw_p33 : lw_okq (⟨"CraneTurnsModel", "goalOf", "(I)I"⟩, 13) := ⟨⟨by decide +kernel, by decide +kernel⟩, List.mem_of_getElem? (i := 594) (by decide +kernel), List.mem_of_getElem? (i := 740) (by decide +kernel), List.mem_of_getElem? (i := 741) (by decide +kernel)⟩
theorem lw_p34 : lw_okq (⟨"CraneTurnsModel", "goes", "(II)Z"⟩, 13) := ⟨⟨by decide +kernel, by decide +kernel⟩, List.mem_of_getElem? (i := 594) (by decide +kernel), List.mem_of_getElem? (i := 744) (by decide +kernel), List.mem_of_getElem? (i := 745) (by decide +kernel)⟩
theorem lw_p35 : lw_okq (⟨"CraneTurnsModel", "lessToGo", "(I)V"⟩, 13) := ⟨⟨by decide +kernel, by decide +kernel⟩, List.mem_of_getElem? (i := 594) (by decide +kernel), List.mem_of_getElem? (i := 748) (by decide +kernel), List.mem_of_getElem? (i := 749) (by decide +kernel)⟩
theorem lw_p36 : lw_okq (⟨"CraneTurnsModel", "secondsOf", "(II)I"⟩, 13) := ⟨⟨by decide +kernel, by decide +kernel⟩, List.mem_of_getElem? (i := 594) (by decide +kernel), List.mem_of_getElem? (i := 768) (by decide +kernel), List.mem_of_getElem? (i := 769) (by decide +kernel)⟩
theorem lw_p37 : lw_okq (⟨"CraneTurnsModel", "isAllDone", "()Z"⟩, 13) := ⟨⟨by decide +kernel, by decide +kernel⟩, List.mem_of_getElem? (i := 594) (by decide +kernel), List.mem_of_getElem? (i := 772) (by decide +kernel), List.mem_of_getElem? (i := 773) (by decide +kernel)⟩
theorem lw_p38 : lw_okq (⟨"CraneTurnsModel", "may", "(I)Z"⟩, 13) := ⟨⟨by decide +kernel, by decide +kernel⟩, List.mem_of_getElem? (i := 594) (by decide +kernel), List.mem_of_getElem? (i := 776) (by decide +kernel), List.mem_of_getElem? (i := 777) (by decide +kernel)⟩
theorem lw_p39 : lw_okq (⟨"CraneTurnsModel", "isInWay", "(I)Z"⟩, 13) := ⟨⟨by decide +kernel, by decide +kernel⟩, List.mem_of_getElem? (i := 594) (by decide +kernel), List.mem_of_getElem? (i := 780) (by decide +kernel), List.mem_of_getElem? (i := 781) (by decide +kernel)⟩
def lw_privs_3 : List (MethodName × Nat) := [(⟨"CraneTurnsModel", "hasGoal", "(I)Z"⟩, 13), (⟨"CraneTurnsModel", "goalOf", "(I)I"⟩, 13), (⟨"CraneTurnsModel", "goes", "(II)Z"⟩, 13), (⟨"CraneTurnsModel", "lessToGo", "(I)V"⟩, 13), (⟨"CraneTurnsModel", "secondsOf", "(II)I"⟩, 13), (⟨"CraneTurnsModel", "isAllDone", "()Z"⟩, 13), (⟨"CraneTurnsModel", "may", "(I)Z"⟩, 13), (⟨"CraneTurnsModel", "isInWay", "(I)Z"⟩, 13)]
theorem lw_r3 : ∀ q ∈ lw_privs_3, lw_okq q := List.forall_mem_cons.mpr ⟨lw_p32, List.forall_mem_cons.mpr ⟨lw_p33, List.forall_mem_cons.mpr ⟨lw_p34, List.forall_mem_cons.mpr ⟨lw_p35, List.forall_mem_cons.mpr ⟨lw_p36, List.forall_mem_cons.mpr ⟨lw_p37, List.forall_mem_cons.mpr ⟨lw_p38, List.forall_mem_cons.mpr ⟨lw_p39, fun _ h => absurd h List.not_mem_nil⟩⟩⟩⟩⟩⟩⟩⟩
def lw_privs : List (MethodName × Nat) := lw_privs_1 ++ (lw_privs_2 ++ (lw_privs_3))
def lw_tbl : List Cond := k2_sels lw_privs ++ tables_1
theorem lw_privs_ok : ∀ q ∈ lw_privs, lw_okq q := by
  show ∀ q ∈ lw_privs_1 ++ (lw_privs_2 ++ (lw_privs_3)), lw_okq q
  exact List.forall_mem_append.mpr ⟨lw_r1, List.forall_mem_append.mpr ⟨lw_r2, lw_r3⟩⟩
-- ===== end of PART A; then your names; then what follows =====
end
section
/-! MINI MACHINE: a memory of ints by (object, place); references are (kind, object); a method's meaning is a relation Sem -/
abbrev mm_V : Type := Int32 ⊕ (Nat × Nat)
abbrev mm_M : Type := Nat → Nat → Int32
abbrev mm_R : Type := Option Int32 × mm_M
/-- what a method does: its number, the memory, the arguments, the answer with the memory behind it -/
abbrev mm_S : Type := Nat → mm_M → List mm_V → mm_R → Prop
/-- memory, pc, locals, stack -/
abbrev mm_C : Type := mm_M × Nat × List (Option mm_V) × List mm_V
/-- what a path is told: which way at a branch; what a call gave -/
abbrev mm_O : Type := Nat × mm_R
abbrev mm_F : Type := mm_S → mm_O → mm_C → Option (mm_C × Prop)
def mm_up (M : mm_M) (i k : Nat) (v : Int32) : mm_M := fun j q => if j = i ∧ q = k then v else M j q
theorem mm_up_at (M : mm_M) (i k : Nat) (v : Int32) : mm_up M i k v i k = v := by simp [mm_up]
theorem mm_up_i (M : mm_M) {i j : Nat} (k : Nat) (v : Int32) (h : j ≠ i) : mm_up M i k v j = M j := by
  funext q; simp [mm_up, h]
theorem mm_up_k (M : mm_M) (i : Nat) {k q : Nat} (v : Int32) (h : q ≠ k) : mm_up M i k v i q = M i q := by simp [mm_up, h]
theorem mm_up_row (M : mm_M) (i k : Nat) (v : Int32) : mm_up M i k v i = upd (M i) k v := by
  funext q; simp [mm_up, upd]
/-- a kind: an object's fields (none: an int; some (kind, off): the object that many further on); an array of numbers (type, length); an array of objects (type, length, kind, off) -/
abbrev mm_K : Type := List (Option (Nat × Nat)) ⊕ ((Nat × Nat) ⊕ (Nat × Nat × Nat × Nat))
def mm_fs (ad : Nat → Nat) (i : Nat) (r : Nat → Int32) : Nat → List (Option (Nat × Nat)) → List Value
  | _, [] => []
  | k, none :: t => .int (r k) :: mm_fs ad i r (k + 1) t
  | k, some (_, off) :: t => .ref (ad (i + off)) :: mm_fs ad i r (k + 1) t
def mm_E (ad : Nat → Nat) (cA : Nat → ClassId) (K : Nat → mm_K) (kd i : Nat) (r : Nat → Int32) : va_E := match K kd with
  | .inl F => .inr (kd, mm_fs ad i r 0 F)
  | .inr (.inl (t, n)) => .inl (cA t, n, .inl r)
  | .inr (.inr (t, n, _, off)) => .inl (cA t, n, .inr (.inr (.inr (.inr (fun j => some (ad (i + off + j)))))))
def mm_W (ad : Nat → Nat) (cA : Nat → ClassId) (K : Nat → mm_K) (kd : Nat → Nat) (N : Nat) (M : mm_M) : va_W := (List.range N).map (fun i => (ad i, mm_E ad cA K (kd i) i (M i)))
theorem mm_fs_int {ad : Nat → Nat} {i : Nat} {r : Nat → Int32} : ∀ (F : List (Option (Nat × Nat))) (k j : Nat), F[j]? = some none → (mm_fs ad i r k F)[j]? = some (.int (r (k + j)))
  | [], k, j, h => by simp at h
  | none :: t, k, 0, h => rfl
  | some (_, _) :: t, k, 0, h => by simp at h
  | none :: t, k, j + 1, h => by
    have := mm_fs_int (ad := ad) (i := i) (r := r) t (k + 1) j (by simpa using h)
    rw [show k + (j + 1) = k + 1 + j by omega]
    simpa [mm_fs] using this
  | some (_, _) :: t, k, j + 1, h => by
    have := mm_fs_int (ad := ad) (i := i) (r := r) t (k + 1) j (by simpa using h)
    rw [show k + (j + 1) = k + 1 + j by omega]
    simpa [mm_fs] using this
theorem mm_fs_ref {ad : Nat → Nat} {i : Nat} {r : Nat → Int32} {ck off : Nat} : ∀ (F : List (Option (Nat × Nat))) (k j : Nat), F[j]? = some (some (ck, off)) → (mm_fs ad i r k F)[j]? = some (.ref (ad (i + off)))
  | [], k, j, h => by simp at h
  | none :: t, k, 0, h => by simp at h
  | some (a, b) :: t, k, 0, h => by
    simp at h
    simp [mm_fs, h.2]
  | none :: t, k, j + 1, h => by
    have := mm_fs_ref (ad := ad) (i := i) (r := r) t (k + 1) j (by simpa using h)
    simpa [mm_fs] using this
  | some (_, _) :: t, k, j + 1, h => by
    have := mm_fs_ref (ad := ad) (i := i) (r := r) t (k + 1) j (by simpa using h)
    simpa [mm_fs] using this
theorem mm_fs_keep {ad : Nat → Nat} {i : Nat} {r r' : Nat → Int32} : ∀ (F : List (Option (Nat × Nat))) (k : Nat), (∀ j, k ≤ j → r' j = r j) → mm_fs ad i r' k F = mm_fs ad i r k F
  | [], k, h => rfl
  | none :: t, k, h => by
    simp only [mm_fs]
    rw [h k (Nat.le_refl k), mm_fs_keep t (k + 1) (fun j hj => h j (by omega))]
  | some (_, _) :: t, k, h => by
    simp only [mm_fs]
    rw [mm_fs_keep t (k + 1) (fun j hj => h j (by omega))]
theorem mm_fs_set {ad : Nat → Nat} {i : Nat} {r : Nat → Int32} {v : Int32} : ∀ (F : List (Option (Nat × Nat))) (k j : Nat), F[j]? = some none → (mm_fs ad i r k F).set j (.int v) = mm_fs ad i (upd r (k + j) v) k F
  | [], k, j, h => by simp at h
  | none :: t, k, 0, h => by
    simp only [mm_fs, List.set_cons_zero, Nat.add_zero]
    rw [mm_fs_keep (r := r) (r' := upd r k v) t (k + 1) (fun j hj => by simp [upd]; omega)]
    simp [upd]
  | some (_, _) :: t, k, 0, h => by simp at h
  | none :: t, k, j + 1, h => by
    have := mm_fs_set (ad := ad) (i := i) (r := r) (v := v) t (k + 1) j (by simpa using h)
    simp only [mm_fs, List.set_cons_succ]
    rw [this, show k + 1 + j = k + (j + 1) by omega]
    congr 2
    simp [upd]
  | some (_, _) :: t, k, j + 1, h => by
    have := mm_fs_set (ad := ad) (i := i) (r := r) (v := v) t (k + 1) j (by simpa using h)
    simp only [mm_fs, List.set_cons_succ]
    rw [this, show k + 1 + j = k + (j + 1) by omega]
theorem mm_fs_len {ad : Nat → Nat} {i : Nat} {r : Nat → Int32} : ∀ (F : List (Option (Nat × Nat))) (k : Nat), (mm_fs ad i r k F).length = F.length
  | [], k => rfl
  | none :: t, k => by simp [mm_fs, mm_fs_len t (k + 1)]
  | some (_, _) :: t, k => by simp [mm_fs, mm_fs_len t (k + 1)]
theorem mm_W_get {ad : Nat → Nat} {cA : Nat → ClassId} {K : Nat → mm_K} {kd : Nat → Nat} {N : Nat} {M : mm_M} {i : Nat} (h : i < N) : (mm_W ad cA K kd N M)[i]? = some (ad i, mm_E ad cA K (kd i) i (M i)) := by
  simp [mm_W, h]
theorem mm_W_set {ad : Nat → Nat} {cA : Nat → ClassId} {K : Nat → mm_K} {kd : Nat → Nat} {N : Nat} {M M' : mm_M} {i : Nat} {e : va_E} (h : mm_E ad cA K (kd i) i (M' i) = e) (hj : ∀ j, j ≠ i → M' j = M j) : (mm_W ad cA K kd N M).set i (ad i, e) = mm_W ad cA K kd N M' := by
  apply List.ext_getElem?
  intro j
  by_cases hij : i = j
  · subst hij
    by_cases hN : i < N
    · rw [mm_W_get hN, h, List.getElem?_set_self (by simp [mm_W, hN])]
    · rw [List.getElem?_eq_none (by simp [mm_W]; omega), List.getElem?_eq_none (by simp [mm_W]; omega)]
  · rw [List.getElem?_set_ne hij]
    by_cases hN : j < N
    · rw [mm_W_get hN, mm_W_get hN, hj j (Ne.symm hij)]
    · rw [List.getElem?_eq_none (by simp [mm_W]; omega), List.getElem?_eq_none (by simp [mm_W]; omega)]
def mm_v (ad : Nat → Nat) (v : mm_V) : Value := match v with
  | .inl x => .int x
  | .inr q => .ref (ad q.2)
theorem mm_v_cat (ad : Nat → Nat) (v : mm_V) : (mm_v ad v).category = 1 := by
  cases v <;> rfl
/-- a value that the memory has -/
def mm_ok (kd : Nat → Nat) (N : Nat) (v : mm_V) : Prop := match v with
  | .inl _ => True
  | .inr q => q.2 < N ∧ kd q.2 = q.1
/-- the layout leads from objects to objects of the named kinds -/
def mm_lay (K : Nat → mm_K) (kd : Nat → Nat) (N : Nat) : Prop := ∀ i, i < N → match K (kd i) with
  | .inl F => ∀ (k ck off : Nat), F[k]? = some (some (ck, off)) → i + off < N ∧ kd (i + off) = ck
  | .inr (.inl _) => True
  | .inr (.inr (_, n, ck, off)) => ∀ j, j < n → i + off + j < N ∧ kd (i + off + j) = ck
/-- the locals -/
def mm_L (ad : Nat → Nat) (ls : Array Slot) (nL : Nat) (g : List (Option mm_V)) : Prop := ls.size = nL ∧ g.length = nL ∧ lv_wf ls ∧ ∀ (i : Nat) (v : mm_V), g[i]? = some (some v) → ls[i]? = some (.val (mm_v ad v))
section MM1
variable {ad : Nat → Nat}
def mm_lv (ad : Nat → Nat) (g : List (Option mm_V)) : List (Nat × Value) := (List.range g.length).filterMap (fun j => (g[j]?.join).map (fun w => (j, mm_v ad w)))
theorem mm_lv_mem {g : List (Option mm_V)} {q : Nat × Value} : q ∈ mm_lv ad g ↔ ∃ w, g[q.1]? = some (some w) ∧ q.2 = mm_v ad w := by
  constructor
  · intro h
    obtain ⟨j, hj, e⟩ := List.mem_filterMap.mp h
    cases hg : g[j]? with
    | none => simp [hg] at e
    | some o =>
      cases o with
      | none => simp [hg] at e
      | some w =>
        simp [hg] at e
        subst e
        exact ⟨w, hg, rfl⟩
  · rintro ⟨w, hg, e⟩
    refine List.mem_filterMap.mpr ⟨q.1, List.mem_range.mpr (List.getElem?_eq_some_iff.mp hg).1, ?_⟩
    simp [hg, ← e]
theorem mm_L_lv {ls : Array Slot} {nL : Nat} {g : List (Option mm_V)} (h : mm_L ad ls nL g) : lv_has ls nL (mm_lv ad g) :=
  ⟨h.1, h.2.2.1, fun q hq => by
    obtain ⟨w, h1, h2⟩ := mm_lv_mem.mp hq
    rw [h2]
    exact h.2.2.2 q.1 w h1⟩
theorem mm_L_of {ls : Array Slot} {nL i : Nat} {g : List (Option mm_V)} {v : mm_V} (hg : g.length = nL) (hi : i < nL) (h : lv_has ls nL ((i, mm_v ad v) :: (mm_lv ad g).filter (fun q => !(q.1 == i) && !(q.1 + 1 == i && q.2.category == 2)))) : mm_L ad ls nL (g.set i (some v)) := by
  refine ⟨h.1, by simp [hg], h.2.1, fun j w hj => ?_⟩
  by_cases e : j = i
  · subst e
    rw [List.getElem?_set_self (by omega)] at hj
    have e2 : v = w := by simpa using hj
    subst e2
    exact h.2.2 (j, mm_v ad v) List.mem_cons_self
  · rw [List.getElem?_set_ne (Ne.symm e)] at hj
    exact h.2.2 (j, mm_v ad w) (List.mem_cons_of_mem _ (List.mem_filter.mpr ⟨mm_lv_mem.mpr ⟨w, hj, rfl⟩, by simp [e, mm_v_cat]⟩))
theorem mm_L_at {ls : Array Slot} {nL i : Nat} {g : List (Option mm_V)} {v : mm_V} (h : mm_L ad ls nL g) (hi : g[i]? = some (some v)) : ls[i]? = some (.val (mm_v ad v)) := h.2.2.2 i v hi
theorem mm_sum : ∀ (t : List mm_V), ((t.map (mm_v ad)).map fun v => v.category).sum = t.length
  | [] => rfl
  | a :: t => by
    have := mm_sum t
    simp only [List.map_cons, List.sum_cons, List.length_cons, mm_v_cat]
    omega
theorem mm_args : ∀ (as : List mm_V) (k j : Nat) (v : mm_V), as[j]? = some v → (k + j, mm_v ad v) ∈ lv_args k (as.map (mm_v ad))
  | [], k, j, v, h => by simp at h
  | a :: t, k, 0, v, h => by
    simp at h
    subst h
    exact List.mem_cons_self
  | a :: t, k, j + 1, v, h => by
    have := mm_args t (k + 1) j v (by simpa using h)
    rw [show k + (j + 1) = k + 1 + j by omega]
    refine List.mem_cons_of_mem _ ?_
    simpa [mm_v_cat] using this
theorem mm_sl : ∀ (as : List mm_V), (lg_sl (as.map (mm_v ad))).length = as.length
  | [] => rfl
  | a :: t => by
    have := mm_sl t
    simp only [lg_sl, List.map_cons, List.flatMap_cons, mm_v_cat, List.length_append, List.length_cons] at this ⊢
    simp at this ⊢
    omega
theorem mm_entry (m : MethodId) (as : List mm_V) {n : Nat} (h : as.length ≤ n) : ∃ ls, entryFrame m (as.map (mm_v ad)).toArray n = F0 m 0 ls [] ∧ mm_L ad ls n (as.map some ++ List.replicate (n - as.length) none) := by
  refine ⟨_, lg_entry_eq m (as.map (mm_v ad)) n, ?_⟩
  have hl := lv_entry (as.map (mm_v ad)) (n := n) (by rw [mm_sl]; exact h)
  refine ⟨hl.1, by simp; omega, hl.2.1, fun i v hi => ?_⟩
  have hlt : i < as.length := by
    rcases Nat.lt_or_ge i as.length with q | q
    · exact q
    · rw [List.getElem?_append_right (by simpa using q)] at hi
      have := List.mem_of_getElem? hi
      simp at this
  rw [List.getElem?_append_left (by simpa using hlt)] at hi
  have h2 : as[i]? = some v := by
    rw [List.getElem?_map] at hi
    cases ha : as[i]? with
    | none => rw [ha] at hi; simp at hi
    | some w => rw [ha] at hi; simp at hi; rw [hi]
  have := mm_args (ad := ad) as 0 i v h2
  rw [Nat.zero_add] at this
  exact hl.2.2 _ this
end MM1
/-! one instruction: what it does to (memory, pc, locals, stack); the Prop is what must hold for it -/
def mi_push (v : Int32) (len : Nat) : mm_F := fun _ _ g => some ((g.1, g.2.1 + len, g.2.2.1, .inl v :: g.2.2.2), True)
def mi_iload (i len : Nat) : mm_F := fun _ _ g => match g.2.2.1[i]? with
  | some (some (.inl x)) => some ((g.1, g.2.1 + len, g.2.2.1, .inl x :: g.2.2.2), True)
  | _ => none
def mi_aload (i len : Nat) : mm_F := fun _ _ g => match g.2.2.1[i]? with
  | some (some (.inr x)) => some ((g.1, g.2.1 + len, g.2.2.1, .inr x :: g.2.2.2), True)
  | _ => none
def mi_istore (i len : Nat) : mm_F := fun _ _ g => match g.2.2.2 with
  | .inl x :: t => some ((g.1, g.2.1 + len, g.2.2.1.set i (some (.inl x)), t), i < g.2.2.1.length)
  | _ => none
def mi_astore (i len : Nat) : mm_F := fun _ _ g => match g.2.2.2 with
  | .inr x :: t => some ((g.1, g.2.1 + len, g.2.2.1.set i (some (.inr x)), t), i < g.2.2.1.length)
  | _ => none
def mi_iinc (i : Nat) (n : Int32) : mm_F := fun _ _ g => match g.2.2.1[i]? with
  | some (some (.inl x)) => some ((g.1, g.2.1 + 3, g.2.2.1.set i (some (.inl (x + n))), g.2.2.2), True)
  | _ => none
def mi_bin (op : Int32 → Int32 → Int32) (len : Nat) : mm_F := fun _ _ g => match g.2.2.2 with
  | .inl y :: .inl x :: t => some ((g.1, g.2.1 + len, g.2.2.1, .inl (op x y) :: t), True)
  | _ => none
def mi_mm (op : Int32 → Int32 → Int32) : mm_F := fun _ _ g => match g.2.2.2 with
  | .inl y :: .inl x :: t => some ((g.1, g.2.1 + 3, g.2.2.1, .inl (op x y) :: t), t.length ≤ 8)
  | _ => none
def mi_div : mm_F := fun _ _ g => match g.2.2.2 with
  | .inl y :: .inl x :: t => some ((g.1, g.2.1 + 1, g.2.2.1, .inl (x / y) :: t), ¬ y = 0)
  | _ => none
def mi_rem : mm_F := fun _ _ g => match g.2.2.2 with
  | .inl y :: .inl x :: t => some ((g.1, g.2.1 + 1, g.2.2.1, .inl (x - x / y * y) :: t), ¬ y = 0)
  | _ => none
def mi_dup : mm_F := fun _ _ g => match g.2.2.2 with
  | v :: t => some ((g.1, g.2.1 + 1, g.2.2.1, v :: v :: t), True)
  | _ => none
def mi_dup2 : mm_F := fun _ _ g => match g.2.2.2 with
  | a :: b :: t => some ((g.1, g.2.1 + 1, g.2.2.1, a :: b :: a :: b :: t), True)
  | _ => none
def mi_dupx1 : mm_F := fun _ _ g => match g.2.2.2 with
  | a :: b :: t => some ((g.1, g.2.1 + 1, g.2.2.1, a :: b :: a :: t), True)
  | _ => none
def mi_pop : mm_F := fun _ _ g => match g.2.2.2 with
  | _ :: t => some ((g.1, g.2.1 + 1, g.2.2.1, t), True)
  | _ => none
def mi_goto (tgt : Nat) : mm_F := fun _ _ g => some ((g.1, tgt, g.2.2.1, g.2.2.2), True)
def mi_if (cnd : Int32 → Prop) (tgt : Nat) : mm_F := fun _ o g => match o.1, g.2.2.2 with
  | 0, .inl x :: t => some ((g.1, g.2.1 + 3, g.2.2.1, t), ¬ cnd x)
  | _ + 1, .inl x :: t => some ((g.1, tgt, g.2.2.1, t), cnd x)
  | _, _ => none
def mi_cmp (cnd : Int32 → Int32 → Prop) (tgt : Nat) : mm_F := fun _ o g => match o.1, g.2.2.2 with
  | 0, .inl y :: .inl x :: t => some ((g.1, g.2.1 + 3, g.2.2.1, t), ¬ cnd x y)
  | _ + 1, .inl y :: .inl x :: t => some ((g.1, tgt, g.2.2.1, t), cnd x y)
  | _, _ => none
def mi_getf (ci k : Nat) : mm_F := fun _ _ g => match g.2.2.2 with
  | .inr (c, i) :: t => if c = ci then some ((g.1, g.2.1 + 3, g.2.2.1, .inl (g.1 i k) :: t), True) else none
  | _ => none
def mi_getr (ci ck off : Nat) : mm_F := fun _ _ g => match g.2.2.2 with
  | .inr (c, i) :: t => if c = ci then some ((g.1, g.2.1 + 3, g.2.2.1, .inr (ck, i + off) :: t), True) else none
  | _ => none
def mi_putf (ci k : Nat) : mm_F := fun _ _ g => match g.2.2.2 with
  | .inl x :: .inr (c, i) :: t => if c = ci then some ((mm_up g.1 i k x, g.2.1 + 3, g.2.2.1, t), True) else none
  | _ => none
def mi_putz (ci k : Nat) : mm_F := fun _ _ g => match g.2.2.2 with
  | .inl x :: .inr (c, i) :: t => if c = ci then some ((mm_up g.1 i k x, g.2.1 + 3, g.2.2.1, t), x = 0 ∨ x = 1) else none
  | _ => none
/-- arrays: the path tells the place j -/
def mi_ald (ck n : Nat) : mm_F := fun _ o g => match g.2.2.2 with
  | .inl x :: .inr (c, i) :: t => if c = ck then some ((g.1, g.2.1 + 1, g.2.2.1, .inl (g.1 i o.1) :: t), x = nI o.1 ∧ o.1 < n) else none
  | _ => none
def mi_ast (ck n : Nat) : mm_F := fun _ o g => match g.2.2.2 with
  | .inl v :: .inl x :: .inr (c, i) :: t => if c = ck then some ((mm_up g.1 i o.1 v, g.2.1 + 1, g.2.2.1, t), x = nI o.1 ∧ o.1 < n) else none
  | _ => none
def mi_zst (ck n : Nat) : mm_F := fun _ o g => match g.2.2.2 with
  | .inl v :: .inl x :: .inr (c, i) :: t => if c = ck then some ((mm_up g.1 i o.1 v, g.2.1 + 1, g.2.2.1, t), (x = nI o.1 ∧ o.1 < n) ∧ (v = 0 ∨ v = 1)) else none
  | _ => none
def mi_aald (ck n ek off : Nat) : mm_F := fun _ o g => match g.2.2.2 with
  | .inl x :: .inr (c, i) :: t => if c = ck then some ((g.1, g.2.1 + 1, g.2.2.1, .inr (ek, i + off + o.1) :: t), x = nI o.1 ∧ o.1 < n) else none
  | _ => none
def mi_alen (ck n : Nat) : mm_F := fun _ _ g => match g.2.2.2 with
  | .inr (c, i) :: t => if c = ck then some ((g.1, g.2.1 + 1, g.2.2.1, .inl (nI n) :: t), True) else none
  | _ => none
/-- a copy of the first n places of an array over another's -/
def mm_cp (M : mm_M) (i0 i1 n : Nat) : mm_M := fun j q => if j = i1 ∧ q < n then M i0 q else M j q
theorem mm_cp_i (M : mm_M) (i0 : Nat) {i1 j : Nat} (n : Nat) (h : j ≠ i1) : mm_cp M i0 i1 n j = M j := by
  funext q; simp [mm_cp, h]
theorem mm_cp_row (M : mm_M) (i0 i1 n : Nat) : mm_cp M i0 i1 n i1 = va_cpy (M i0) (M i1) 0 0 n := by
  funext q; simp [mm_cp, va_cpy]
def mi_copy (ck n9 : Nat) : mm_F := fun _ o g => match g.2.2.2 with
  | .inl n :: .inl dp :: .inr (c1, i1) :: .inl sp :: .inr (c0, i0) :: t => if c0 = ck ∧ c1 = ck then some ((mm_cp g.1 i0 i1 o.1, g.2.1 + 3, g.2.2.1, t), sp = 0 ∧ dp = 0 ∧ n = nI o.1 ∧ o.1 ≤ n9 ∧ t.length ≤ 8) else none
  | _ => none
def mi_tsw (lo hi : Int) (tgts : List Nat) (dflt : Nat) : mm_F := fun _ o g => match o.1, g.2.2.2 with
  | 0, .inl x :: t => some ((g.1, dflt, g.2.2.1, t), x.toInt < lo ∨ hi < x.toInt)
  | j + 1, .inl x :: t => match tgts[j]? with
    | some tg => some ((g.1, tg, g.2.2.1, t), x.toInt = lo + j)
    | none => none
  | _, _ => none
/-- a call of method z with n words off the stack; rc: the receiver's kind -/
def mi_call (z n : Nat) (rc : Option Nat) : mm_F := fun S o g => some ((o.2.2, g.2.1 + 3, g.2.2.1, (match o.2.1 with
  | some r => .inl r :: g.2.2.2.drop n
  | none => g.2.2.2.drop n)), S z g.1 (g.2.2.2.take n).reverse o.2 ∧ n ≤ g.2.2.2.length ∧ (g.2.2.2.drop n).length ≤ 8 ∧ (match rc with
  | some ci => ∃ i, (g.2.2.2.take n).reverse.head? = some (.inr (ci, i))
  | none => True))
def mm_at {α : Type} : List (Nat × α) → Nat → Option α
  | [], _ => none
  | (k, f) :: t, pc => cond (Nat.beq k pc) (some f) (mm_at t pc)
def mm_path (pg : List (Nat × mm_F)) (S : mm_S) : List mm_O → mm_C → Option (mm_C × Prop)
  | [], g => some (g, True)
  | o :: os, g => match mm_at pg g.2.1 with
    | none => none
    | some f => match f S o g with
      | none => none
      | some (g', P) => match mm_path pg S os g' with
        | none => none
        | some (g'', P') => some (g'', P ∧ P')
/-- at a return: rt tells the returns' places, and whether nothing (0), an int (1) or a boolean (2) is answered -/
def mm_Rt (rt : List (Nat × Nat)) (g : mm_C) (res : mm_R) : Prop := match mm_at rt g.2.1 with
  | some 0 => g.2.2.2 = [] ∧ res = (none, g.1)
  | some 1 => ∃ r, g.2.2.2 = [.inl r] ∧ res = (some r, g.1)
  | some 2 => ∃ r, g.2.2.2 = [.inl r] ∧ res = (some r, g.1) ∧ (r = 0 ∨ r = 1)
  | _ => False
def mm_Ends (pg : List (Nat × mm_F)) (rt : List (Nat × Nat)) (S : mm_S) (g : mm_C) (res : mm_R) : Prop := ∃ os g' P, mm_path pg S os g = some (g', P) ∧ P ∧ mm_Rt rt g' res
theorem mm_path_app {pg : List (Nat × mm_F)} {S : mm_S} : ∀ {os os' : List mm_O} {g g' g'' : mm_C} {P P' : Prop}, mm_path pg S os g = some (g', P) → mm_path pg S os' g' = some (g'', P') → P → P' → ∃ P'', mm_path pg S (os ++ os') g = some (g'', P'') ∧ P''
  | [], os', g, g', g'', P, P', h, h', hP, hP' => by
    obtain ⟨rfl, rfl⟩ := Prod.mk.inj (Option.some.inj h)
    exact ⟨P', h', hP'⟩
  | o :: os, os', g, g', g'', P, P', h, h', hP, hP' => by
    simp only [mm_path] at h
    cases h1 : mm_at pg g.2.1 with
    | none => simp [h1] at h
    | some f =>
      simp only [h1] at h
      cases h2 : f S o g with
      | none => simp [h2] at h
      | some q =>
        obtain ⟨g1, P1⟩ := q
        simp only [h2] at h
        cases h3 : mm_path pg S os g1 with
        | none => simp [h3] at h
        | some q2 =>
          obtain ⟨g2, P2⟩ := q2
          simp only [h3] at h
          obtain ⟨e1, e2⟩ := Prod.mk.inj (Option.some.inj h)
          subst e1
          rw [← e2] at hP
          obtain ⟨P3, h4, h5⟩ := mm_path_app h3 h' hP.2 hP'
          refine ⟨P1 ∧ P3, ?_, hP.1, h5⟩
          simp only [List.cons_append, mm_path, h1, h2, h4]
theorem mm_go {pg : List (Nat × mm_F)} {rt : List (Nat × Nat)} {S : mm_S} (os : List mm_O) {g g' : mm_C} {P : Prop} {res : mm_R} (h : mm_path pg S os g = some (g', P)) (hP : P) (k : mm_Ends pg rt S g' res) : mm_Ends pg rt S g res := by
  obtain ⟨os', g'', P', h', hP', hr⟩ := k
  obtain ⟨P'', h1, h2⟩ := mm_path_app h h' hP hP'
  exact ⟨os ++ os', g'', P'', h1, h2, hr⟩
theorem mm_end {pg : List (Nat × mm_F)} {rt : List (Nat × Nat)} {S : mm_S} {g : mm_C} {res : mm_R} (h : mm_Rt rt g res) : mm_Ends pg rt S g res := ⟨[], g, True, rfl, trivial, h⟩
def mm_layB (K : Nat → mm_K) (kd : Nat → Nat) (N : Nat) : Bool := (List.range N).all (fun i => match K (kd i) with
  | .inl F => F.all (fun q => match q with
    | none => true
    | some (ck, off) => decide (i + off < N ∧ kd (i + off) = ck))
  | .inr (.inl _) => true
  | .inr (.inr (_, n, ck, off)) => (List.range n).all (fun j => decide (i + off + j < N ∧ kd (i + off + j) = ck)))
theorem mm_layB_ok {K : Nat → mm_K} {kd : Nat → Nat} {N : Nat} (h : mm_layB K kd N = true) : mm_lay K kd N := fun i hi => by
  have h1 := List.all_eq_true.mp h i (List.mem_range.mpr hi)
  revert h1
  rcases K (kd i) with F | ⟨t, n⟩ | ⟨t, n, ck, off⟩
  · intro h1 k ck off hk
    have h2 := List.all_eq_true.mp h1 _ (List.mem_of_getElem? hk)
    exact of_decide_eq_true h2
  · exact fun _ => trivial
  · intro h1 j hj
    exact of_decide_eq_true (List.all_eq_true.mp h1 j (List.mem_range.mpr hj))
theorem mm_at_nil {P : Nat → mm_F → Prop} : ∀ pc f, mm_at ([] : List (Nat × mm_F)) pc = some f → P pc f := fun pc f h => by simp [mm_at] at h
theorem mm_at_cons {P : Nat → mm_F → Prop} {k : Nat} {f : mm_F} {t : List (Nat × mm_F)} (h : P k f) (ht : ∀ pc f, mm_at t pc = some f → P pc f) : ∀ pc f', mm_at ((k, f) :: t) pc = some f' → P pc f' := fun pc f' hf => by
  simp only [mm_at] at hf
  cases hb : Nat.beq k pc with
  | true =>
    rw [hb] at hf
    have e1 : k = pc := Nat.eq_of_beq_eq_true hb
    have e2 : f = f' := Option.some.inj hf
    rw [← e1, ← e2]; exact h
  | false => rw [hb] at hf; exact ht pc f' hf
theorem mm_2 {GW : List Cond} {a b : Cond} (ha : a ∈ GW) (hb : b ∈ GW) : ∀ w ∈ [a, b], w ∈ GW := fun w h => by
  simp only [List.mem_cons, List.not_mem_nil, or_false] at h
  rcases h with rfl | rfl <;> assumption
theorem mm_3 {GW : List Cond} {a b c : Cond} (ha : a ∈ GW) (hb : b ∈ GW) (hc : c ∈ GW) : ∀ w ∈ [a, b, c], w ∈ GW := fun w h => by
  simp only [List.mem_cons, List.not_mem_nil, or_false] at h
  rcases h with rfl | rfl | rfl <;> assumption
theorem mm_4 {GW : List Cond} {a b c d : Cond} (ha : a ∈ GW) (hb : b ∈ GW) (hc : c ∈ GW) (hd : d ∈ GW) : ∀ w ∈ [a, b, c, d], w ∈ GW := fun w h => by
  simp only [List.mem_cons, List.not_mem_nil, or_false] at h
  rcases h with rfl | rfl | rfl | rfl <;> assumption
end
section
abbrev mm_N : Type := String × Nat × MethodName × String
def mm_nw (NW : List mm_N) (s : State) : Prop := ∀ q ∈ NW, va_Nw (.methodLinkNest q.1 q.2.1 q.2.2.1 q.2.2.2) s
section MM2
variable {GW : List Cond} {NW : List mm_N} {D : va_G} {cl : List vw_C} {tys : List (ClassId × FieldType)} {ad : Nat → Nat} {cA : Nat → ClassId} {K : Nat → mm_K} {kd : Nat → Nat} {N : Nat}
def mm_Cx (GW : List Cond) (NW : List mm_N) (D : va_G) (cl : List vw_C) (tys : List (ClassId × FieldType)) (K : Nat → mm_K) (kd : Nat → Nat) (N : Nat) (R : Room) (own : String) (cc : ByteArray) (nL : Nat) (p : Program) (s : State) (m : MethodId) (args : Array Value) (meth : Method) (c : Code) (A : Nat → Prop) (cells slots : Nat) : Prop :=
  (p.tables.exec = Jvm.exec ∧ c.code = cc ∧ c.maxLocals = nL ∧ s.vm.findClass own = some m.cls) ∧ (∀ w ∈ GW, w.before args s = true) ∧ mm_nw NW s ∧ va_K D cl tys s ∧ mm_lay K kd N ∧ (∀ q : Nat, s.heap.size ≤ q → A q) ∧ meth.locks = false ∧ cells ≤ R.cells ∧ slots ≤ R.slots
def mm_G (D : va_G) (cl : List vw_C) (ad : Nat → Nat) (cA : Nat → ClassId) (K : Nat → mm_K) (kd : Nat → Nat) (N : Nat) (p : Program) (l : Launch) (e : Env) (R : Room) (s : State) (m : MethodId) (args : Array Value) (below : List Frame) (meth : Method) (c : Code) (A : Nat → Prop) (nL cells slots : Nat) (Q : State → Prop) (g : mm_C) : Prop :=
  (∀ v ∈ g.2.2.2, mm_ok kd N v) → (∀ v, some v ∈ g.2.2.1 → mm_ok kd N v) → ∀ (H : Heap) (locs : List Loc) (ls : Array Slot), va_P D cl (mm_W ad cA K kd N g.1) H → va_D A (mm_W ad cA K kd N g.1) → va_S A s.heap H locs → mm_L ad ls nL g.2.2.1 → W p l e R s m args below meth c H locs cells slots Q (F0 m g.2.1 ls (g.2.2.2.map (mm_v ad)))
def mm_Ok (GW : List Cond) (NW : List mm_N) (D : va_G) (cl : List vw_C) (tys : List (ClassId × FieldType)) (ad : Nat → Nat) (cA : Nat → ClassId) (K : Nat → mm_K) (kd : Nat → Nat) (N : Nat) (l : Launch) (R : Room) (own : String) (cc : ByteArray) (nL : Nat) (S : mm_S) (pc : Nat) (f : mm_F) : Prop :=
  ∀ (p : Program) (e : Env) (s : State) (m : MethodId) (args : Array Value) (below : List Frame) (meth : Method) (c : Code) (A : Nat → Prop) (cells slots : Nat) (Q : State → Prop), mm_Cx GW NW D cl tys K kd N R own cc nL p s m args meth c A cells slots → ∀ (o : mm_O) (g g' : mm_C) (P : Prop), g.2.1 = pc → f S o g = some (g', P) → P → mm_G D cl ad cA K kd N p l e R s m args below meth c A nL cells slots Q g' → mm_G D cl ad cA K kd N p l e R s m args below meth c A nL cells slots Q g
theorem sk_i {x : Int32} {t : List mm_V} (h : ∀ v ∈ t, mm_ok kd N v) : ∀ v ∈ ((.inl x : mm_V) :: t), mm_ok kd N v := fun v hv => by
  rcases List.mem_cons.mp hv with rfl | hv
  · exact trivial
  · exact h v hv
theorem sk_r {a : mm_V} {t : List mm_V} (ha : mm_ok kd N a) (h : ∀ v ∈ t, mm_ok kd N v) : ∀ v ∈ (a :: t), mm_ok kd N v := fun v hv => by
  rcases List.mem_cons.mp hv with rfl | hv
  · exact ha
  · exact h v hv
theorem sk_t {a : mm_V} {t : List mm_V} (h : ∀ v ∈ (a :: t), mm_ok kd N v) : ∀ v ∈ t, mm_ok kd N v := fun v hv => h v (List.mem_cons_of_mem _ hv)
theorem sk_h {a : mm_V} {t : List mm_V} (h : ∀ v ∈ (a :: t), mm_ok kd N v) : mm_ok kd N a := h a List.mem_cons_self
theorem lk_s {i : Nat} {a : mm_V} {gl : List (Option mm_V)} (ha : mm_ok kd N a) (h : ∀ v, some v ∈ gl → mm_ok kd N v) : ∀ v, some v ∈ gl.set i (some a) → mm_ok kd N v := fun v hv => by
  rcases List.mem_or_eq_of_mem_set hv with h1 | h1
  · exact h v h1
  · have e : v = a := by simpa using h1
    rw [e]; exact ha
theorem mm_E_obj {ci i : Nat} {F : List (Option (Nat × Nat))} {r : Nat → Int32} (hF : K ci = .inl F) : mm_E ad cA K ci i r = .inr (ci, mm_fs ad i r 0 F) := by
  simp only [mm_E, hF]
theorem mm_E_prim {ck i t n : Nat} {r : Nat → Int32} (hF : K ck = .inr (.inl (t, n))) : mm_E ad cA K ck i r = .inl (cA t, n, .inl r) := by
  simp only [mm_E, hF]
theorem mm_E_refs {ck i t n ek off : Nat} {r : Nat → Int32} (hF : K ck = .inr (.inr (t, n, ek, off))) : mm_E ad cA K ck i r = .inl (cA t, n, .inr (.inr (.inr (.inr (fun j => some (ad (i + off + j))))))) := by
  simp only [mm_E, hF]
variable {l : Launch} {R : Room} {own : String} {cc : ByteArray} {nL pc : Nat} {S : mm_S}
set_option maxHeartbeats 1000000 in
theorem ok_iconst {n : Int} {v : Int32} (d : decode cc pc = .ok (.iconst n, 1)) (hv : Int32.ofInt n = v) : mm_Ok GW NW D cl tys ad cA K kd N l R own cc nL S pc (mi_push v 1) := by
  intro p e s m args below meth c A cells slots Q X o g g' P hpc hf hP9 hG h1 h2 H locs ls hP hD hS hL
  obtain ⟨M, pc', gl, st⟩ := g
  simp only at hpc
  subst hpc
  obtain ⟨⟨hx, hb, hml, hown⟩, hts, hnw, hK, hlay, hA, hlk, hcl, hsl⟩ := X
  simp only at h1 h2 hP hD hL
  obtain ⟨rfl, rfl⟩ := Prod.mk.inj (Option.some.inj (show some (((M, pc' + 1, gl, .inl v :: st) : mm_C), (True)) = some (g', P) from hf))
  exact lv_iconst hx hb d hv (hG (sk_i h1) h2 H locs ls hP hD hS hL)
set_option maxHeartbeats 1000000 in
theorem ok_bipush {n : Int} {v : Int32} (d : decode cc pc = .ok (.bipush n, 2)) (hv : (Int8.ofInt n).toInt32 = v) : mm_Ok GW NW D cl tys ad cA K kd N l R own cc nL S pc (mi_push v 2) := by
  intro p e s m args below meth c A cells slots Q X o g g' P hpc hf hP9 hG h1 h2 H locs ls hP hD hS hL
  obtain ⟨M, pc', gl, st⟩ := g
  simp only at hpc
  subst hpc
  obtain ⟨⟨hx, hb, hml, hown⟩, hts, hnw, hK, hlay, hA, hlk, hcl, hsl⟩ := X
  simp only at h1 h2 hP hD hL
  obtain ⟨rfl, rfl⟩ := Prod.mk.inj (Option.some.inj (show some (((M, pc' + 2, gl, .inl v :: st) : mm_C), (True)) = some (g', P) from hf))
  exact lv_bipush hx hb d hv (hG (sk_i h1) h2 H locs ls hP hD hS hL)
set_option maxHeartbeats 1000000 in
theorem ok_sipush {n : Int} {v : Int32} (d : decode cc pc = .ok (.sipush n, 3)) (hv : (Int16.ofInt n).toInt32 = v) : mm_Ok GW NW D cl tys ad cA K kd N l R own cc nL S pc (mi_push v 3) := by
  intro p e s m args below meth c A cells slots Q X o g g' P hpc hf hP9 hG h1 h2 H locs ls hP hD hS hL
  obtain ⟨M, pc', gl, st⟩ := g
  simp only at hpc
  subst hpc
  obtain ⟨⟨hx, hb, hml, hown⟩, hts, hnw, hK, hlay, hA, hlk, hcl, hsl⟩ := X
  simp only at h1 h2 hP hD hL
  obtain ⟨rfl, rfl⟩ := Prod.mk.inj (Option.some.inj (show some (((M, pc' + 3, gl, .inl v :: st) : mm_C), (True)) = some (g', P) from hf))
  exact lv_sipush hx hb d hv (hG (sk_i h1) h2 H locs ls hP hD hS hL)
set_option maxHeartbeats 1000000 in
theorem ok_ldc {idx : Nat} {v : Int32} (hc : Jvm.Cond.constant own idx v ∈ GW) (d : decode cc pc = .ok (.ldc idx, 2)) : mm_Ok GW NW D cl tys ad cA K kd N l R own cc nL S pc (mi_push v 2) := by
  intro p e s m args below meth c A cells slots Q X o g g' P hpc hf hP9 hG h1 h2 H locs ls hP hD hS hL
  obtain ⟨M, pc', gl, st⟩ := g
  simp only at hpc
  subst hpc
  obtain ⟨⟨hx, hb, hml, hown⟩, hts, hnw, hK, hlay, hA, hlk, hcl, hsl⟩ := X
  simp only at h1 h2 hP hD hL
  obtain ⟨rfl, rfl⟩ := Prod.mk.inj (Option.some.inj (show some (((M, pc' + 2, gl, .inl v :: st) : mm_C), (True)) = some (g', P) from hf))
  exact lv_ldc hx hb hown (hts _ hc) d (hG (sk_i h1) h2 H locs ls hP hD hS hL)
set_option maxHeartbeats 1000000 in
theorem ok_iload_n {k : Fin 4} {i : Nat} (d : decode cc pc = .ok (.iload_n k, 1)) (hi : (k : Nat) = i) : mm_Ok GW NW D cl tys ad cA K kd N l R own cc nL S pc (mi_iload i 1) := by
  intro p e s m args below meth c A cells slots Q X o g g' P hpc hf hP9 hG h1 h2 H locs ls hP hD hS hL
  obtain ⟨M, pc', gl, st⟩ := g
  simp only at hpc
  subst hpc
  obtain ⟨⟨hx, hb, hml, hown⟩, hts, hnw, hK, hlay, hA, hlk, hcl, hsl⟩ := X
  simp only at h1 h2 hP hD hL
  cases hg : gl[i]? with
  | none => simp [mi_iload, hg] at hf
  | some w =>
    rcases w with _ | x | x
    · simp [mi_iload, hg] at hf
    · obtain ⟨rfl, rfl⟩ := Prod.mk.inj (Option.some.inj (show some (((M, pc' + 1, gl, .inl x :: st) : mm_C), True) = some (g', P) from by rw [← hf]; simp [mi_iload, hg]))
      exact lv_iload_n hx hb d hi (mm_L_at hL hg) (hG (sk_i h1) h2 H locs ls hP hD hS hL)
    · simp [mi_iload, hg] at hf
set_option maxHeartbeats 1000000 in
theorem ok_iload {i : Nat} (d : decode cc pc = .ok (.iload i, 2)) : mm_Ok GW NW D cl tys ad cA K kd N l R own cc nL S pc (mi_iload i 2) := by
  intro p e s m args below meth c A cells slots Q X o g g' P hpc hf hP9 hG h1 h2 H locs ls hP hD hS hL
  obtain ⟨M, pc', gl, st⟩ := g
  simp only at hpc
  subst hpc
  obtain ⟨⟨hx, hb, hml, hown⟩, hts, hnw, hK, hlay, hA, hlk, hcl, hsl⟩ := X
  simp only at h1 h2 hP hD hL
  cases hg : gl[i]? with
  | none => simp [mi_iload, hg] at hf
  | some w =>
    rcases w with _ | x | x
    · simp [mi_iload, hg] at hf
    · obtain ⟨rfl, rfl⟩ := Prod.mk.inj (Option.some.inj (show some (((M, pc' + 2, gl, .inl x :: st) : mm_C), True) = some (g', P) from by rw [← hf]; simp [mi_iload, hg]))
      exact lv_iload hx hb d (mm_L_at hL hg) (hG (sk_i h1) h2 H locs ls hP hD hS hL)
    · simp [mi_iload, hg] at hf
set_option maxHeartbeats 1000000 in
theorem ok_aload_n {k : Fin 4} {i : Nat} (d : decode cc pc = .ok (.aload_n k, 1)) (hi : (k : Nat) = i) : mm_Ok GW NW D cl tys ad cA K kd N l R own cc nL S pc (mi_aload i 1) := by
  intro p e s m args below meth c A cells slots Q X o g g' P hpc hf hP9 hG h1 h2 H locs ls hP hD hS hL
  obtain ⟨M, pc', gl, st⟩ := g
  simp only at hpc
  subst hpc
  obtain ⟨⟨hx, hb, hml, hown⟩, hts, hnw, hK, hlay, hA, hlk, hcl, hsl⟩ := X
  simp only at h1 h2 hP hD hL
  cases hg : gl[i]? with
  | none => simp [mi_aload, hg] at hf
  | some w =>
    rcases w with _ | x | x
    · simp [mi_aload, hg] at hf
    · simp [mi_aload, hg] at hf
    · obtain ⟨rfl, rfl⟩ := Prod.mk.inj (Option.some.inj (show some (((M, pc' + 1, gl, .inr x :: st) : mm_C), True) = some (g', P) from by rw [← hf]; simp [mi_aload, hg]))
      exact lv_aload_n hx hb d hi (mm_L_at hL hg) (hG (sk_r (h2 _ (List.mem_of_getElem? hg)) h1) h2 H locs ls hP hD hS hL)
set_option maxHeartbeats 1000000 in
theorem ok_aload {i : Nat} (d : decode cc pc = .ok (.aload i, 2)) : mm_Ok GW NW D cl tys ad cA K kd N l R own cc nL S pc (mi_aload i 2) := by
  intro p e s m args below meth c A cells slots Q X o g g' P hpc hf hP9 hG h1 h2 H locs ls hP hD hS hL
  obtain ⟨M, pc', gl, st⟩ := g
  simp only at hpc
  subst hpc
  obtain ⟨⟨hx, hb, hml, hown⟩, hts, hnw, hK, hlay, hA, hlk, hcl, hsl⟩ := X
  simp only at h1 h2 hP hD hL
  cases hg : gl[i]? with
  | none => simp [mi_aload, hg] at hf
  | some w =>
    rcases w with _ | x | x
    · simp [mi_aload, hg] at hf
    · simp [mi_aload, hg] at hf
    · obtain ⟨rfl, rfl⟩ := Prod.mk.inj (Option.some.inj (show some (((M, pc' + 2, gl, .inr x :: st) : mm_C), True) = some (g', P) from by rw [← hf]; simp [mi_aload, hg]))
      exact lv_aload hx hb d (mm_L_at hL hg) (hG (sk_r (h2 _ (List.mem_of_getElem? hg)) h1) h2 H locs ls hP hD hS hL)
set_option maxHeartbeats 1000000 in
theorem ok_istore_n {k : Fin 4} {i : Nat} (d : decode cc pc = .ok (.istore_n k, 1)) (hi : (k : Nat) = i) : mm_Ok GW NW D cl tys ad cA K kd N l R own cc nL S pc (mi_istore i 1) := by
  intro p e s m args below meth c A cells slots Q X o g g' P hpc hf hP9 hG h1 h2 H locs ls hP hD hS hL
  obtain ⟨M, pc', gl, st⟩ := g
  simp only at hpc
  subst hpc
  obtain ⟨⟨hx, hb, hml, hown⟩, hts, hnw, hK, hlay, hA, hlk, hcl, hsl⟩ := X
  simp only at h1 h2 hP hD hL
  rcases st with _ | ⟨x | x, t⟩
  · simp [mi_istore] at hf
  · obtain ⟨rfl, rfl⟩ := Prod.mk.inj (Option.some.inj (show some (((M, pc' + 1, gl.set i (some (.inl x)), t) : mm_C), i < gl.length) = some (g', P) from hf))
    have hi9 : i < nL := by rw [← hL.2.1]; exact hP9
    exact lv_istore_n hx hb d hi (mm_L_lv hL) hi9 rfl (fun ls' hl' => hG (sk_t h1) (lk_s (trivial) h2) H locs ls' hP hD hS (mm_L_of (v := (.inl x : mm_V)) hL.2.1 hi9 hl'))
  · simp [mi_istore] at hf
set_option maxHeartbeats 1000000 in
theorem ok_istore {i : Nat} (d : decode cc pc = .ok (.istore i, 2)) : mm_Ok GW NW D cl tys ad cA K kd N l R own cc nL S pc (mi_istore i 2) := by
  intro p e s m args below meth c A cells slots Q X o g g' P hpc hf hP9 hG h1 h2 H locs ls hP hD hS hL
  obtain ⟨M, pc', gl, st⟩ := g
  simp only at hpc
  subst hpc
  obtain ⟨⟨hx, hb, hml, hown⟩, hts, hnw, hK, hlay, hA, hlk, hcl, hsl⟩ := X
  simp only at h1 h2 hP hD hL
  rcases st with _ | ⟨x | x, t⟩
  · simp [mi_istore] at hf
  · obtain ⟨rfl, rfl⟩ := Prod.mk.inj (Option.some.inj (show some (((M, pc' + 2, gl.set i (some (.inl x)), t) : mm_C), i < gl.length) = some (g', P) from hf))
    have hi9 : i < nL := by rw [← hL.2.1]; exact hP9
    exact lv_istore hx hb d (mm_L_lv hL) hi9 rfl (fun ls' hl' => hG (sk_t h1) (lk_s (trivial) h2) H locs ls' hP hD hS (mm_L_of (v := (.inl x : mm_V)) hL.2.1 hi9 hl'))
  · simp [mi_istore] at hf
set_option maxHeartbeats 1000000 in
theorem ok_astore_n {k : Fin 4} {i : Nat} (d : decode cc pc = .ok (.astore_n k, 1)) (hi : (k : Nat) = i) : mm_Ok GW NW D cl tys ad cA K kd N l R own cc nL S pc (mi_astore i 1) := by
  intro p e s m args below meth c A cells slots Q X o g g' P hpc hf hP9 hG h1 h2 H locs ls hP hD hS hL
  obtain ⟨M, pc', gl, st⟩ := g
  simp only at hpc
  subst hpc
  obtain ⟨⟨hx, hb, hml, hown⟩, hts, hnw, hK, hlay, hA, hlk, hcl, hsl⟩ := X
  simp only at h1 h2 hP hD hL
  rcases st with _ | ⟨x | x, t⟩
  · simp [mi_astore] at hf
  · simp [mi_astore] at hf
  · obtain ⟨rfl, rfl⟩ := Prod.mk.inj (Option.some.inj (show some (((M, pc' + 1, gl.set i (some (.inr x)), t) : mm_C), i < gl.length) = some (g', P) from hf))
    have hi9 : i < nL := by rw [← hL.2.1]; exact hP9
    exact lv_astore_n hx hb d hi (mm_L_lv hL) hi9 rfl (fun ls' hl' => hG (sk_t h1) (lk_s (sk_h h1) h2) H locs ls' hP hD hS (mm_L_of (v := (.inr x : mm_V)) hL.2.1 hi9 hl'))
set_option maxHeartbeats 1000000 in
theorem ok_astore {i : Nat} (d : decode cc pc = .ok (.astore i, 2)) : mm_Ok GW NW D cl tys ad cA K kd N l R own cc nL S pc (mi_astore i 2) := by
  intro p e s m args below meth c A cells slots Q X o g g' P hpc hf hP9 hG h1 h2 H locs ls hP hD hS hL
  obtain ⟨M, pc', gl, st⟩ := g
  simp only at hpc
  subst hpc
  obtain ⟨⟨hx, hb, hml, hown⟩, hts, hnw, hK, hlay, hA, hlk, hcl, hsl⟩ := X
  simp only at h1 h2 hP hD hL
  rcases st with _ | ⟨x | x, t⟩
  · simp [mi_astore] at hf
  · simp [mi_astore] at hf
  · obtain ⟨rfl, rfl⟩ := Prod.mk.inj (Option.some.inj (show some (((M, pc' + 2, gl.set i (some (.inr x)), t) : mm_C), i < gl.length) = some (g', P) from hf))
    have hi9 : i < nL := by rw [← hL.2.1]; exact hP9
    exact lv_astore hx hb d (mm_L_lv hL) hi9 rfl (fun ls' hl' => hG (sk_t h1) (lk_s (sk_h h1) h2) H locs ls' hP hD hS (mm_L_of (v := (.inr x : mm_V)) hL.2.1 hi9 hl'))
set_option maxHeartbeats 1000000 in
theorem ok_iinc {i : Nat} {n : Int} {v : Int32} (d : decode cc pc = .ok (.iinc i n, 3)) (hv : Int32.ofInt n = v) : mm_Ok GW NW D cl tys ad cA K kd N l R own cc nL S pc (mi_iinc i v) := by
  intro p e s m args below meth c A cells slots Q X o g g' P hpc hf hP9 hG h1 h2 H locs ls hP hD hS hL
  obtain ⟨M, pc', gl, st⟩ := g
  simp only at hpc
  subst hpc
  obtain ⟨⟨hx, hb, hml, hown⟩, hts, hnw, hK, hlay, hA, hlk, hcl, hsl⟩ := X
  simp only at h1 h2 hP hD hL
  cases hg : gl[i]? with
  | none => simp [mi_iinc, hg] at hf
  | some w =>
    rcases w with _ | x | x
    · simp [mi_iinc, hg] at hf
    · obtain ⟨rfl, rfl⟩ := Prod.mk.inj (Option.some.inj (show some (((M, pc' + 3, gl.set i (some (.inl (x + v))), st) : mm_C), True) = some (g', P) from by rw [← hf]; simp [mi_iinc, hg]))
      have hi9 : i < nL := by rw [← hL.2.1]; exact (List.getElem?_eq_some_iff.mp hg).1
      obtain ⟨kq, hkq⟩ := List.getElem?_of_mem (mm_lv_mem (ad := ad) (q := (i, Value.int x)).mpr ⟨.inl x, hg, rfl⟩)
      exact lv_iinc (v := x + v) hx hb d (mm_L_lv hL) hkq (by rw [hv]) hi9 rfl (fun ls' hl' => hG h1 (lk_s trivial h2) H locs ls' hP hD hS (mm_L_of (v := (.inl (x + v) : mm_V)) hL.2.1 hi9 hl'))
    · simp [mi_iinc, hg] at hf
set_option maxHeartbeats 1000000 in
theorem ok_iadd (d : decode cc pc = .ok (.iadd, 1)) : mm_Ok GW NW D cl tys ad cA K kd N l R own cc nL S pc (mi_bin (fun x y => x + y) 1) := by
  intro p e s m args below meth c A cells slots Q X o g g' P hpc hf hP9 hG h1 h2 H locs ls hP hD hS hL
  obtain ⟨M, pc', gl, st⟩ := g
  simp only at hpc
  subst hpc
  obtain ⟨⟨hx, hb, hml, hown⟩, hts, hnw, hK, hlay, hA, hlk, hcl, hsl⟩ := X
  simp only at h1 h2 hP hD hL
  rcases st with _ | ⟨y | y, _ | ⟨x | x, t⟩⟩
  · simp [mi_bin] at hf
  · simp [mi_bin] at hf
  · obtain ⟨rfl, rfl⟩ := Prod.mk.inj (Option.some.inj (show some (((M, pc' + 1, gl, .inl (x + y) :: t) : mm_C), True) = some (g', P) from hf))
    exact lv_iadd hx hb d (hG (sk_i (sk_t (sk_t h1))) h2 H locs ls hP hD hS hL)
  · simp [mi_bin] at hf
  · simp [mi_bin] at hf
  · simp [mi_bin] at hf
  · simp [mi_bin] at hf
set_option maxHeartbeats 1000000 in
theorem ok_isub (d : decode cc pc = .ok (.isub, 1)) : mm_Ok GW NW D cl tys ad cA K kd N l R own cc nL S pc (mi_bin (fun x y => x - y) 1) := by
  intro p e s m args below meth c A cells slots Q X o g g' P hpc hf hP9 hG h1 h2 H locs ls hP hD hS hL
  obtain ⟨M, pc', gl, st⟩ := g
  simp only at hpc
  subst hpc
  obtain ⟨⟨hx, hb, hml, hown⟩, hts, hnw, hK, hlay, hA, hlk, hcl, hsl⟩ := X
  simp only at h1 h2 hP hD hL
  rcases st with _ | ⟨y | y, _ | ⟨x | x, t⟩⟩
  · simp [mi_bin] at hf
  · simp [mi_bin] at hf
  · obtain ⟨rfl, rfl⟩ := Prod.mk.inj (Option.some.inj (show some (((M, pc' + 1, gl, .inl (x - y) :: t) : mm_C), True) = some (g', P) from hf))
    exact lv_isub hx hb d (hG (sk_i (sk_t (sk_t h1))) h2 H locs ls hP hD hS hL)
  · simp [mi_bin] at hf
  · simp [mi_bin] at hf
  · simp [mi_bin] at hf
  · simp [mi_bin] at hf
set_option maxHeartbeats 1000000 in
theorem ok_imul (d : decode cc pc = .ok (.imul, 1)) : mm_Ok GW NW D cl tys ad cA K kd N l R own cc nL S pc (mi_bin (fun x y => x * y) 1) := by
  intro p e s m args below meth c A cells slots Q X o g g' P hpc hf hP9 hG h1 h2 H locs ls hP hD hS hL
  obtain ⟨M, pc', gl, st⟩ := g
  simp only at hpc
  subst hpc
  obtain ⟨⟨hx, hb, hml, hown⟩, hts, hnw, hK, hlay, hA, hlk, hcl, hsl⟩ := X
  simp only at h1 h2 hP hD hL
  rcases st with _ | ⟨y | y, _ | ⟨x | x, t⟩⟩
  · simp [mi_bin] at hf
  · simp [mi_bin] at hf
  · obtain ⟨rfl, rfl⟩ := Prod.mk.inj (Option.some.inj (show some (((M, pc' + 1, gl, .inl (x * y) :: t) : mm_C), True) = some (g', P) from hf))
    exact lv_imul hx hb d (hG (sk_i (sk_t (sk_t h1))) h2 H locs ls hP hD hS hL)
  · simp [mi_bin] at hf
  · simp [mi_bin] at hf
  · simp [mi_bin] at hf
  · simp [mi_bin] at hf
set_option maxHeartbeats 1000000 in
theorem ok_iand (d : decode cc pc = .ok (.iand, 1)) : mm_Ok GW NW D cl tys ad cA K kd N l R own cc nL S pc (mi_bin (fun x y => x &&& y) 1) := by
  intro p e s m args below meth c A cells slots Q X o g g' P hpc hf hP9 hG h1 h2 H locs ls hP hD hS hL
  obtain ⟨M, pc', gl, st⟩ := g
  simp only at hpc
  subst hpc
  obtain ⟨⟨hx, hb, hml, hown⟩, hts, hnw, hK, hlay, hA, hlk, hcl, hsl⟩ := X
  simp only at h1 h2 hP hD hL
  rcases st with _ | ⟨y | y, _ | ⟨x | x, t⟩⟩
  · simp [mi_bin] at hf
  · simp [mi_bin] at hf
  · obtain ⟨rfl, rfl⟩ := Prod.mk.inj (Option.some.inj (show some (((M, pc' + 1, gl, .inl (x &&& y) :: t) : mm_C), True) = some (g', P) from hf))
    exact lv_iand hx hb d (hG (sk_i (sk_t (sk_t h1))) h2 H locs ls hP hD hS hL)
  · simp [mi_bin] at hf
  · simp [mi_bin] at hf
  · simp [mi_bin] at hf
  · simp [mi_bin] at hf
set_option maxHeartbeats 1000000 in
theorem ok_ior (d : decode cc pc = .ok (.ior, 1)) : mm_Ok GW NW D cl tys ad cA K kd N l R own cc nL S pc (mi_bin (fun x y => x ||| y) 1) := by
  intro p e s m args below meth c A cells slots Q X o g g' P hpc hf hP9 hG h1 h2 H locs ls hP hD hS hL
  obtain ⟨M, pc', gl, st⟩ := g
  simp only at hpc
  subst hpc
  obtain ⟨⟨hx, hb, hml, hown⟩, hts, hnw, hK, hlay, hA, hlk, hcl, hsl⟩ := X
  simp only at h1 h2 hP hD hL
  rcases st with _ | ⟨y | y, _ | ⟨x | x, t⟩⟩
  · simp [mi_bin] at hf
  · simp [mi_bin] at hf
  · obtain ⟨rfl, rfl⟩ := Prod.mk.inj (Option.some.inj (show some (((M, pc' + 1, gl, .inl (x ||| y) :: t) : mm_C), True) = some (g', P) from hf))
    exact lv_ior hx hb d (hG (sk_i (sk_t (sk_t h1))) h2 H locs ls hP hD hS hL)
  · simp [mi_bin] at hf
  · simp [mi_bin] at hf
  · simp [mi_bin] at hf
  · simp [mi_bin] at hf
set_option maxHeartbeats 1000000 in
theorem ok_ixor (d : decode cc pc = .ok (.ixor, 1)) : mm_Ok GW NW D cl tys ad cA K kd N l R own cc nL S pc (mi_bin (fun x y => x ^^^ y) 1) := by
  intro p e s m args below meth c A cells slots Q X o g g' P hpc hf hP9 hG h1 h2 H locs ls hP hD hS hL
  obtain ⟨M, pc', gl, st⟩ := g
  simp only at hpc
  subst hpc
  obtain ⟨⟨hx, hb, hml, hown⟩, hts, hnw, hK, hlay, hA, hlk, hcl, hsl⟩ := X
  simp only at h1 h2 hP hD hL
  rcases st with _ | ⟨y | y, _ | ⟨x | x, t⟩⟩
  · simp [mi_bin] at hf
  · simp [mi_bin] at hf
  · obtain ⟨rfl, rfl⟩ := Prod.mk.inj (Option.some.inj (show some (((M, pc' + 1, gl, .inl (x ^^^ y) :: t) : mm_C), True) = some (g', P) from hf))
    exact lv_ixor hx hb d (hG (sk_i (sk_t (sk_t h1))) h2 H locs ls hP hD hS hL)
  · simp [mi_bin] at hf
  · simp [mi_bin] at hf
  · simp [mi_bin] at hf
  · simp [mi_bin] at hf
set_option maxHeartbeats 1000000 in
theorem ok_idiv (d : decode cc pc = .ok (.idiv, 1)) : mm_Ok GW NW D cl tys ad cA K kd N l R own cc nL S pc (mi_div) := by
  intro p e s m args below meth c A cells slots Q X o g g' P hpc hf hP9 hG h1 h2 H locs ls hP hD hS hL
  obtain ⟨M, pc', gl, st⟩ := g
  simp only at hpc
  subst hpc
  obtain ⟨⟨hx, hb, hml, hown⟩, hts, hnw, hK, hlay, hA, hlk, hcl, hsl⟩ := X
  simp only at h1 h2 hP hD hL
  rcases st with _ | ⟨y | y, _ | ⟨x | x, t⟩⟩
  · simp [mi_div] at hf
  · simp [mi_div] at hf
  · obtain ⟨rfl, rfl⟩ := Prod.mk.inj (Option.some.inj (show some (((M, pc' + 1, gl, .inl (x / y) :: t) : mm_C), ¬ y = 0) = some (g', P) from hf))
    exact lv_idiv hx hb d hP9 (hG (sk_i (sk_t (sk_t h1))) h2 H locs ls hP hD hS hL)
  · simp [mi_div] at hf
  · simp [mi_div] at hf
  · simp [mi_div] at hf
  · simp [mi_div] at hf
set_option maxHeartbeats 1000000 in
theorem ok_irem (d : decode cc pc = .ok (.irem, 1)) : mm_Ok GW NW D cl tys ad cA K kd N l R own cc nL S pc (mi_rem) := by
  intro p e s m args below meth c A cells slots Q X o g g' P hpc hf hP9 hG h1 h2 H locs ls hP hD hS hL
  obtain ⟨M, pc', gl, st⟩ := g
  simp only at hpc
  subst hpc
  obtain ⟨⟨hx, hb, hml, hown⟩, hts, hnw, hK, hlay, hA, hlk, hcl, hsl⟩ := X
  simp only at h1 h2 hP hD hL
  rcases st with _ | ⟨y | y, _ | ⟨x | x, t⟩⟩
  · simp [mi_rem] at hf
  · simp [mi_rem] at hf
  · obtain ⟨rfl, rfl⟩ := Prod.mk.inj (Option.some.inj (show some (((M, pc' + 1, gl, .inl (x - x / y * y) :: t) : mm_C), ¬ y = 0) = some (g', P) from hf))
    exact lv_irem hx hb d hP9 (hG (sk_i (sk_t (sk_t h1))) h2 H locs ls hP hD hS hL)
  · simp [mi_rem] at hf
  · simp [mi_rem] at hf
  · simp [mi_rem] at hf
  · simp [mi_rem] at hf
set_option maxHeartbeats 1000000 in
theorem ok_min {idx : Nat} (w1 : Cond.methodLink own idx Lib.Math.min.name ∈ GW) (w2 : Cond.static Lib.Math.min.name ∈ GW) (w3 : Cond.initialized "java/lang/Math" ∈ GW) (w4 : Cond.code Lib.Math.min.name Lib.Math.min.code 2 (some .int) ∈ GW) (hR : 1 ≤ R.frames ∧ 30 ≤ R.locals) (d : decode cc pc = .ok (.invokestatic idx, 3)) : mm_Ok GW NW D cl tys ad cA K kd N l R own cc nL S pc (mi_mm (fun x y => if y < x then y else x)) := by
  intro p e s m args below meth c A cells slots Q X o g g' P hpc hf hP9 hG h1 h2 H locs ls hP hD hS hL
  obtain ⟨M, pc', gl, st⟩ := g
  simp only at hpc
  subst hpc
  obtain ⟨⟨hx, hb, hml, hown⟩, hts, hnw, hK, hlay, hA, hlk, hcl, hsl⟩ := X
  simp only at h1 h2 hP hD hL
  rcases st with _ | ⟨y | y, _ | ⟨x | x, t⟩⟩
  · simp [mi_mm] at hf
  · simp [mi_mm] at hf
  · obtain ⟨rfl, rfl⟩ := Prod.mk.inj (Option.some.inj (show some (((M, pc' + 3, gl, .inl (if y < x then y else x) :: t) : mm_C), t.length ≤ 8) = some (g', P) from hf))
    have hsum : ((t.map (mm_v ad)).map fun v => v.category).sum = t.length := mm_sum t
    have hl9 : t.length ≤ 8 := hP9
    exact va_mmin hx hb (by rw [hml]; exact hL.1.symm) hown (hts _ w1) (hts _ w2) (hts _ w3) (hts _ w4) hR.1 (by rw [hsum]; omega) hcl hsl d (hG (sk_i (sk_t (sk_t h1))) h2 H locs ls hP hD hS hL)
  · simp [mi_mm] at hf
  · simp [mi_mm] at hf
  · simp [mi_mm] at hf
  · simp [mi_mm] at hf
set_option maxHeartbeats 1000000 in
theorem ok_max {idx : Nat} (w1 : Cond.methodLink own idx Lib.Math.max.name ∈ GW) (w2 : Cond.static Lib.Math.max.name ∈ GW) (w3 : Cond.initialized "java/lang/Math" ∈ GW) (w4 : Cond.code Lib.Math.max.name Lib.Math.max.code 2 (some .int) ∈ GW) (hR : 1 ≤ R.frames ∧ 30 ≤ R.locals) (d : decode cc pc = .ok (.invokestatic idx, 3)) : mm_Ok GW NW D cl tys ad cA K kd N l R own cc nL S pc (mi_mm (fun x y => if x < y then y else x)) := by
  intro p e s m args below meth c A cells slots Q X o g g' P hpc hf hP9 hG h1 h2 H locs ls hP hD hS hL
  obtain ⟨M, pc', gl, st⟩ := g
  simp only at hpc
  subst hpc
  obtain ⟨⟨hx, hb, hml, hown⟩, hts, hnw, hK, hlay, hA, hlk, hcl, hsl⟩ := X
  simp only at h1 h2 hP hD hL
  rcases st with _ | ⟨y | y, _ | ⟨x | x, t⟩⟩
  · simp [mi_mm] at hf
  · simp [mi_mm] at hf
  · obtain ⟨rfl, rfl⟩ := Prod.mk.inj (Option.some.inj (show some (((M, pc' + 3, gl, .inl (if x < y then y else x) :: t) : mm_C), t.length ≤ 8) = some (g', P) from hf))
    have hsum : ((t.map (mm_v ad)).map fun v => v.category).sum = t.length := mm_sum t
    have hl9 : t.length ≤ 8 := hP9
    exact va_mmax hx hb (by rw [hml]; exact hL.1.symm) hown (hts _ w1) (hts _ w2) (hts _ w3) (hts _ w4) hR.1 (by rw [hsum]; omega) hcl hsl d (hG (sk_i (sk_t (sk_t h1))) h2 H locs ls hP hD hS hL)
  · simp [mi_mm] at hf
  · simp [mi_mm] at hf
  · simp [mi_mm] at hf
  · simp [mi_mm] at hf
set_option maxHeartbeats 1000000 in
theorem ok_dup (d : decode cc pc = .ok (.dup, 1)) : mm_Ok GW NW D cl tys ad cA K kd N l R own cc nL S pc (mi_dup) := by
  intro p e s m args below meth c A cells slots Q X o g g' P hpc hf hP9 hG h1 h2 H locs ls hP hD hS hL
  obtain ⟨M, pc', gl, st⟩ := g
  simp only at hpc
  subst hpc
  obtain ⟨⟨hx, hb, hml, hown⟩, hts, hnw, hK, hlay, hA, hlk, hcl, hsl⟩ := X
  simp only at h1 h2 hP hD hL
  rcases st with _ | ⟨a, t⟩
  · simp [mi_dup] at hf
  · obtain ⟨rfl, rfl⟩ := Prod.mk.inj (Option.some.inj (show some (((M, pc' + 1, gl, a :: a :: t) : mm_C), True) = some (g', P) from hf))
    exact lv_dup hx hb d (mm_v_cat ad a) (hG (sk_r (sk_h h1) h1) h2 H locs ls hP hD hS hL)
set_option maxHeartbeats 1000000 in
theorem ok_pop (d : decode cc pc = .ok (.pop, 1)) : mm_Ok GW NW D cl tys ad cA K kd N l R own cc nL S pc (mi_pop) := by
  intro p e s m args below meth c A cells slots Q X o g g' P hpc hf hP9 hG h1 h2 H locs ls hP hD hS hL
  obtain ⟨M, pc', gl, st⟩ := g
  simp only at hpc
  subst hpc
  obtain ⟨⟨hx, hb, hml, hown⟩, hts, hnw, hK, hlay, hA, hlk, hcl, hsl⟩ := X
  simp only at h1 h2 hP hD hL
  rcases st with _ | ⟨a, t⟩
  · simp [mi_pop] at hf
  · obtain ⟨rfl, rfl⟩ := Prod.mk.inj (Option.some.inj (show some (((M, pc' + 1, gl, t) : mm_C), True) = some (g', P) from hf))
    exact lv_pop hx hb d (mm_v_cat ad a) (hG (sk_t h1) h2 H locs ls hP hD hS hL)
set_option maxHeartbeats 1000000 in
theorem ok_dup2 (d : decode cc pc = .ok (.dup2, 1)) : mm_Ok GW NW D cl tys ad cA K kd N l R own cc nL S pc (mi_dup2) := by
  intro p e s m args below meth c A cells slots Q X o g g' P hpc hf hP9 hG h1 h2 H locs ls hP hD hS hL
  obtain ⟨M, pc', gl, st⟩ := g
  simp only at hpc
  subst hpc
  obtain ⟨⟨hx, hb, hml, hown⟩, hts, hnw, hK, hlay, hA, hlk, hcl, hsl⟩ := X
  simp only at h1 h2 hP hD hL
  rcases st with _ | ⟨a, _ | ⟨b, t⟩⟩
  · simp [mi_dup2] at hf
  · simp [mi_dup2] at hf
  · obtain ⟨rfl, rfl⟩ := Prod.mk.inj (Option.some.inj (show some (((M, pc' + 1, gl, a :: b :: a :: b :: t) : mm_C), True) = some (g', P) from hf))
    exact lv_dup2_11 hx hb d (mm_v_cat ad a) (mm_v_cat ad b) (hG (sk_r (sk_h h1) (sk_r (sk_h (sk_t h1)) h1)) h2 H locs ls hP hD hS hL)
set_option maxHeartbeats 1000000 in
theorem ok_dupx1 (d : decode cc pc = .ok (.dup_x1, 1)) : mm_Ok GW NW D cl tys ad cA K kd N l R own cc nL S pc (mi_dupx1) := by
  intro p e s m args below meth c A cells slots Q X o g g' P hpc hf hP9 hG h1 h2 H locs ls hP hD hS hL
  obtain ⟨M, pc', gl, st⟩ := g
  simp only at hpc
  subst hpc
  obtain ⟨⟨hx, hb, hml, hown⟩, hts, hnw, hK, hlay, hA, hlk, hcl, hsl⟩ := X
  simp only at h1 h2 hP hD hL
  rcases st with _ | ⟨a, _ | ⟨b, t⟩⟩
  · simp [mi_dupx1] at hf
  · simp [mi_dupx1] at hf
  · obtain ⟨rfl, rfl⟩ := Prod.mk.inj (Option.some.inj (show some (((M, pc' + 1, gl, a :: b :: a :: t) : mm_C), True) = some (g', P) from hf))
    exact lv_dup_x1 hx hb d (mm_v_cat ad a) (mm_v_cat ad b) (hG (sk_r (sk_h h1) (sk_r (sk_h (sk_t h1)) (sk_r (sk_h h1) (sk_t (sk_t h1))))) h2 H locs ls hP hD hS hL)
set_option maxHeartbeats 1000000 in
theorem ok_goto {off : Int} {tgt : Nat} (d : decode cc pc = .ok (.goto off, 3)) (ht : (pc : Int) + off = (tgt : Int)) : mm_Ok GW NW D cl tys ad cA K kd N l R own cc nL S pc (mi_goto tgt) := by
  intro p e s m args below meth c A cells slots Q X o g g' P hpc hf hP9 hG h1 h2 H locs ls hP hD hS hL
  obtain ⟨M, pc', gl, st⟩ := g
  simp only at hpc
  subst hpc
  obtain ⟨⟨hx, hb, hml, hown⟩, hts, hnw, hK, hlay, hA, hlk, hcl, hsl⟩ := X
  simp only at h1 h2 hP hD hL
  obtain ⟨rfl, rfl⟩ := Prod.mk.inj (Option.some.inj (show some (((M, tgt, gl, st) : mm_C), True) = some (g', P) from hf))
  exact lv_goto hx hb d ht (hG h1 h2 H locs ls hP hD hS hL)
set_option maxHeartbeats 1000000 in
theorem ok_if_eq {off : Int} {tgt : Nat} (d : decode cc pc = .ok (.ifCond .eq off, 3)) (ht : (pc : Int) + off = (tgt : Int)) : mm_Ok GW NW D cl tys ad cA K kd N l R own cc nL S pc (mi_if (fun x => x = 0) tgt) := by
  intro p e s m args below meth c A cells slots Q X o g g' P hpc hf hP9 hG h1 h2 H locs ls hP hD hS hL
  obtain ⟨M, pc', gl, st⟩ := g
  simp only at hpc
  subst hpc
  obtain ⟨⟨hx, hb, hml, hown⟩, hts, hnw, hK, hlay, hA, hlk, hcl, hsl⟩ := X
  simp only at h1 h2 hP hD hL
  obtain ⟨w, o2⟩ := o
  rcases w with _ | w <;> rcases st with _ | ⟨x | x, t⟩
  · simp [mi_if] at hf
  · obtain ⟨rfl, rfl⟩ := Prod.mk.inj (Option.some.inj (show some (((M, pc' + 3, gl, t) : mm_C), ¬ (x = 0)) = some (g', P) from hf))
    exact lv_if_eq hx hb d ht (fun z => absurd z hP9) (fun _ => hG (sk_t h1) h2 H locs ls hP hD hS hL)
  · simp [mi_if] at hf
  · simp [mi_if] at hf
  · obtain ⟨rfl, rfl⟩ := Prod.mk.inj (Option.some.inj (show some (((M, tgt, gl, t) : mm_C), (x = 0)) = some (g', P) from hf))
    exact lv_if_eq hx hb d ht (fun _ => hG (sk_t h1) h2 H locs ls hP hD hS hL) (fun z => absurd hP9 z)
  · simp [mi_if] at hf
set_option maxHeartbeats 1000000 in
theorem ok_icmp_eq {off : Int} {tgt : Nat} (d : decode cc pc = .ok (.if_icmp .eq off, 3)) (ht : (pc : Int) + off = (tgt : Int)) : mm_Ok GW NW D cl tys ad cA K kd N l R own cc nL S pc (mi_cmp (fun x y => x = y) tgt) := by
  intro p e s m args below meth c A cells slots Q X o g g' P hpc hf hP9 hG h1 h2 H locs ls hP hD hS hL
  obtain ⟨M, pc', gl, st⟩ := g
  simp only at hpc
  subst hpc
  obtain ⟨⟨hx, hb, hml, hown⟩, hts, hnw, hK, hlay, hA, hlk, hcl, hsl⟩ := X
  simp only at h1 h2 hP hD hL
  obtain ⟨w, o2⟩ := o
  rcases w with _ | w <;> rcases st with _ | ⟨y | y, _ | ⟨x | x, t⟩⟩
  · simp [mi_cmp] at hf
  · simp [mi_cmp] at hf
  · obtain ⟨rfl, rfl⟩ := Prod.mk.inj (Option.some.inj (show some (((M, pc' + 3, gl, t) : mm_C), ¬ (x = y)) = some (g', P) from hf))
    exact lv_icmp_eq hx hb d ht (fun z => absurd z hP9) (fun _ => hG (sk_t (sk_t h1)) h2 H locs ls hP hD hS hL)
  · simp [mi_cmp] at hf
  · simp [mi_cmp] at hf
  · simp [mi_cmp] at hf
  · simp [mi_cmp] at hf
  · simp [mi_cmp] at hf
  · simp [mi_cmp] at hf
  · obtain ⟨rfl, rfl⟩ := Prod.mk.inj (Option.some.inj (show some (((M, tgt, gl, t) : mm_C), (x = y)) = some (g', P) from hf))
    exact lv_icmp_eq hx hb d ht (fun _ => hG (sk_t (sk_t h1)) h2 H locs ls hP hD hS hL) (fun z => absurd hP9 z)
  · simp [mi_cmp] at hf
  · simp [mi_cmp] at hf
  · simp [mi_cmp] at hf
  · simp [mi_cmp] at hf
set_option maxHeartbeats 1000000 in
theorem ok_if_ne {off : Int} {tgt : Nat} (d : decode cc pc = .ok (.ifCond .ne off, 3)) (ht : (pc : Int) + off = (tgt : Int)) : mm_Ok GW NW D cl tys ad cA K kd N l R own cc nL S pc (mi_if (fun x => ¬ x = 0) tgt) := by
  intro p e s m args below meth c A cells slots Q X o g g' P hpc hf hP9 hG h1 h2 H locs ls hP hD hS hL
  obtain ⟨M, pc', gl, st⟩ := g
  simp only at hpc
  subst hpc
  obtain ⟨⟨hx, hb, hml, hown⟩, hts, hnw, hK, hlay, hA, hlk, hcl, hsl⟩ := X
  simp only at h1 h2 hP hD hL
  obtain ⟨w, o2⟩ := o
  rcases w with _ | w <;> rcases st with _ | ⟨x | x, t⟩
  · simp [mi_if] at hf
  · obtain ⟨rfl, rfl⟩ := Prod.mk.inj (Option.some.inj (show some (((M, pc' + 3, gl, t) : mm_C), ¬ (¬ x = 0)) = some (g', P) from hf))
    exact lv_if_ne hx hb d ht (fun z => absurd z hP9) (fun _ => hG (sk_t h1) h2 H locs ls hP hD hS hL)
  · simp [mi_if] at hf
  · simp [mi_if] at hf
  · obtain ⟨rfl, rfl⟩ := Prod.mk.inj (Option.some.inj (show some (((M, tgt, gl, t) : mm_C), (¬ x = 0)) = some (g', P) from hf))
    exact lv_if_ne hx hb d ht (fun _ => hG (sk_t h1) h2 H locs ls hP hD hS hL) (fun z => absurd z hP9)
  · simp [mi_if] at hf
set_option maxHeartbeats 1000000 in
theorem ok_icmp_ne {off : Int} {tgt : Nat} (d : decode cc pc = .ok (.if_icmp .ne off, 3)) (ht : (pc : Int) + off = (tgt : Int)) : mm_Ok GW NW D cl tys ad cA K kd N l R own cc nL S pc (mi_cmp (fun x y => ¬ x = y) tgt) := by
  intro p e s m args below meth c A cells slots Q X o g g' P hpc hf hP9 hG h1 h2 H locs ls hP hD hS hL
  obtain ⟨M, pc', gl, st⟩ := g
  simp only at hpc
  subst hpc
  obtain ⟨⟨hx, hb, hml, hown⟩, hts, hnw, hK, hlay, hA, hlk, hcl, hsl⟩ := X
  simp only at h1 h2 hP hD hL
  obtain ⟨w, o2⟩ := o
  rcases w with _ | w <;> rcases st with _ | ⟨y | y, _ | ⟨x | x, t⟩⟩
  · simp [mi_cmp] at hf
  · simp [mi_cmp] at hf
  · obtain ⟨rfl, rfl⟩ := Prod.mk.inj (Option.some.inj (show some (((M, pc' + 3, gl, t) : mm_C), ¬ (¬ x = y)) = some (g', P) from hf))
    exact lv_icmp_ne hx hb d ht (fun z => absurd z hP9) (fun _ => hG (sk_t (sk_t h1)) h2 H locs ls hP hD hS hL)
  · simp [mi_cmp] at hf
  · simp [mi_cmp] at hf
  · simp [mi_cmp] at hf
  · simp [mi_cmp] at hf
  · simp [mi_cmp] at hf
  · simp [mi_cmp] at hf
  · obtain ⟨rfl, rfl⟩ := Prod.mk.inj (Option.some.inj (show some (((M, tgt, gl, t) : mm_C), (¬ x = y)) = some (g', P) from hf))
    exact lv_icmp_ne hx hb d ht (fun _ => hG (sk_t (sk_t h1)) h2 H locs ls hP hD hS hL) (fun z => absurd z hP9)
  · simp [mi_cmp] at hf
  · simp [mi_cmp] at hf
  · simp [mi_cmp] at hf
  · simp [mi_cmp] at hf
set_option maxHeartbeats 1000000 in
theorem ok_if_lt {off : Int} {tgt : Nat} (d : decode cc pc = .ok (.ifCond .lt off, 3)) (ht : (pc : Int) + off = (tgt : Int)) : mm_Ok GW NW D cl tys ad cA K kd N l R own cc nL S pc (mi_if (fun x => x < 0) tgt) := by
  intro p e s m args below meth c A cells slots Q X o g g' P hpc hf hP9 hG h1 h2 H locs ls hP hD hS hL
  obtain ⟨M, pc', gl, st⟩ := g
  simp only at hpc
  subst hpc
  obtain ⟨⟨hx, hb, hml, hown⟩, hts, hnw, hK, hlay, hA, hlk, hcl, hsl⟩ := X
  simp only at h1 h2 hP hD hL
  obtain ⟨w, o2⟩ := o
  rcases w with _ | w <;> rcases st with _ | ⟨x | x, t⟩
  · simp [mi_if] at hf
  · obtain ⟨rfl, rfl⟩ := Prod.mk.inj (Option.some.inj (show some (((M, pc' + 3, gl, t) : mm_C), ¬ (x < 0)) = some (g', P) from hf))
    exact lv_if_lt hx hb d ht (fun z => absurd z hP9) (fun _ => hG (sk_t h1) h2 H locs ls hP hD hS hL)
  · simp [mi_if] at hf
  · simp [mi_if] at hf
  · obtain ⟨rfl, rfl⟩ := Prod.mk.inj (Option.some.inj (show some (((M, tgt, gl, t) : mm_C), (x < 0)) = some (g', P) from hf))
    exact lv_if_lt hx hb d ht (fun _ => hG (sk_t h1) h2 H locs ls hP hD hS hL) (fun z => absurd hP9 z)
  · simp [mi_if] at hf
set_option maxHeartbeats 1000000 in
theorem ok_icmp_lt {off : Int} {tgt : Nat} (d : decode cc pc = .ok (.if_icmp .lt off, 3)) (ht : (pc : Int) + off = (tgt : Int)) : mm_Ok GW NW D cl tys ad cA K kd N l R own cc nL S pc (mi_cmp (fun x y => x < y) tgt) := by
  intro p e s m args below meth c A cells slots Q X o g g' P hpc hf hP9 hG h1 h2 H locs ls hP hD hS hL
  obtain ⟨M, pc', gl, st⟩ := g
  simp only at hpc
  subst hpc
  obtain ⟨⟨hx, hb, hml, hown⟩, hts, hnw, hK, hlay, hA, hlk, hcl, hsl⟩ := X
  simp only at h1 h2 hP hD hL
  obtain ⟨w, o2⟩ := o
  rcases w with _ | w <;> rcases st with _ | ⟨y | y, _ | ⟨x | x, t⟩⟩
  · simp [mi_cmp] at hf
  · simp [mi_cmp] at hf
  · obtain ⟨rfl, rfl⟩ := Prod.mk.inj (Option.some.inj (show some (((M, pc' + 3, gl, t) : mm_C), ¬ (x < y)) = some (g', P) from hf))
    exact lv_icmp_lt hx hb d ht (fun z => absurd z hP9) (fun _ => hG (sk_t (sk_t h1)) h2 H locs ls hP hD hS hL)
  · simp [mi_cmp] at hf
  · simp [mi_cmp] at hf
  · simp [mi_cmp] at hf
  · simp [mi_cmp] at hf
  · simp [mi_cmp] at hf
  · simp [mi_cmp] at hf
  · obtain ⟨rfl, rfl⟩ := Prod.mk.inj (Option.some.inj (show some (((M, tgt, gl, t) : mm_C), (x < y)) = some (g', P) from hf))
    exact lv_icmp_lt hx hb d ht (fun _ => hG (sk_t (sk_t h1)) h2 H locs ls hP hD hS hL) (fun z => absurd hP9 z)
  · simp [mi_cmp] at hf
  · simp [mi_cmp] at hf
  · simp [mi_cmp] at hf
  · simp [mi_cmp] at hf
set_option maxHeartbeats 1000000 in
theorem ok_if_ge {off : Int} {tgt : Nat} (d : decode cc pc = .ok (.ifCond .ge off, 3)) (ht : (pc : Int) + off = (tgt : Int)) : mm_Ok GW NW D cl tys ad cA K kd N l R own cc nL S pc (mi_if (fun x => 0 ≤ x) tgt) := by
  intro p e s m args below meth c A cells slots Q X o g g' P hpc hf hP9 hG h1 h2 H locs ls hP hD hS hL
  obtain ⟨M, pc', gl, st⟩ := g
  simp only at hpc
  subst hpc
  obtain ⟨⟨hx, hb, hml, hown⟩, hts, hnw, hK, hlay, hA, hlk, hcl, hsl⟩ := X
  simp only at h1 h2 hP hD hL
  obtain ⟨w, o2⟩ := o
  rcases w with _ | w <;> rcases st with _ | ⟨x | x, t⟩
  · simp [mi_if] at hf
  · obtain ⟨rfl, rfl⟩ := Prod.mk.inj (Option.some.inj (show some (((M, pc' + 3, gl, t) : mm_C), ¬ (0 ≤ x)) = some (g', P) from hf))
    exact lv_if_ge hx hb d ht (fun z => absurd z hP9) (fun _ => hG (sk_t h1) h2 H locs ls hP hD hS hL)
  · simp [mi_if] at hf
  · simp [mi_if] at hf
  · obtain ⟨rfl, rfl⟩ := Prod.mk.inj (Option.some.inj (show some (((M, tgt, gl, t) : mm_C), (0 ≤ x)) = some (g', P) from hf))
    exact lv_if_ge hx hb d ht (fun _ => hG (sk_t h1) h2 H locs ls hP hD hS hL) (fun z => absurd hP9 z)
  · simp [mi_if] at hf
set_option maxHeartbeats 1000000 in
theorem ok_icmp_ge {off : Int} {tgt : Nat} (d : decode cc pc = .ok (.if_icmp .ge off, 3)) (ht : (pc : Int) + off = (tgt : Int)) : mm_Ok GW NW D cl tys ad cA K kd N l R own cc nL S pc (mi_cmp (fun x y => y ≤ x) tgt) := by
  intro p e s m args below meth c A cells slots Q X o g g' P hpc hf hP9 hG h1 h2 H locs ls hP hD hS hL
  obtain ⟨M, pc', gl, st⟩ := g
  simp only at hpc
  subst hpc
  obtain ⟨⟨hx, hb, hml, hown⟩, hts, hnw, hK, hlay, hA, hlk, hcl, hsl⟩ := X
  simp only at h1 h2 hP hD hL
  obtain ⟨w, o2⟩ := o
  rcases w with _ | w <;> rcases st with _ | ⟨y | y, _ | ⟨x | x, t⟩⟩
  · simp [mi_cmp] at hf
  · simp [mi_cmp] at hf
  · obtain ⟨rfl, rfl⟩ := Prod.mk.inj (Option.some.inj (show some (((M, pc' + 3, gl, t) : mm_C), ¬ (y ≤ x)) = some (g', P) from hf))
    exact lv_icmp_ge hx hb d ht (fun z => absurd z hP9) (fun _ => hG (sk_t (sk_t h1)) h2 H locs ls hP hD hS hL)
  · simp [mi_cmp] at hf
  · simp [mi_cmp] at hf
  · simp [mi_cmp] at hf
  · simp [mi_cmp] at hf
  · simp [mi_cmp] at hf
  · simp [mi_cmp] at hf
  · obtain ⟨rfl, rfl⟩ := Prod.mk.inj (Option.some.inj (show some (((M, tgt, gl, t) : mm_C), (y ≤ x)) = some (g', P) from hf))
    exact lv_icmp_ge hx hb d ht (fun _ => hG (sk_t (sk_t h1)) h2 H locs ls hP hD hS hL) (fun z => absurd hP9 z)
  · simp [mi_cmp] at hf
  · simp [mi_cmp] at hf
  · simp [mi_cmp] at hf
  · simp [mi_cmp] at hf
set_option maxHeartbeats 1000000 in
theorem ok_if_gt {off : Int} {tgt : Nat} (d : decode cc pc = .ok (.ifCond .gt off, 3)) (ht : (pc : Int) + off = (tgt : Int)) : mm_Ok GW NW D cl tys ad cA K kd N l R own cc nL S pc (mi_if (fun x => 0 < x) tgt) := by
  intro p e s m args below meth c A cells slots Q X o g g' P hpc hf hP9 hG h1 h2 H locs ls hP hD hS hL
  obtain ⟨M, pc', gl, st⟩ := g
  simp only at hpc
  subst hpc
  obtain ⟨⟨hx, hb, hml, hown⟩, hts, hnw, hK, hlay, hA, hlk, hcl, hsl⟩ := X
  simp only at h1 h2 hP hD hL
  obtain ⟨w, o2⟩ := o
  rcases w with _ | w <;> rcases st with _ | ⟨x | x, t⟩
  · simp [mi_if] at hf
  · obtain ⟨rfl, rfl⟩ := Prod.mk.inj (Option.some.inj (show some (((M, pc' + 3, gl, t) : mm_C), ¬ (0 < x)) = some (g', P) from hf))
    exact lv_if_gt hx hb d ht (fun z => absurd z hP9) (fun _ => hG (sk_t h1) h2 H locs ls hP hD hS hL)
  · simp [mi_if] at hf
  · simp [mi_if] at hf
  · obtain ⟨rfl, rfl⟩ := Prod.mk.inj (Option.some.inj (show some (((M, tgt, gl, t) : mm_C), (0 < x)) = some (g', P) from hf))
    exact lv_if_gt hx hb d ht (fun _ => hG (sk_t h1) h2 H locs ls hP hD hS hL) (fun z => absurd hP9 z)
  · simp [mi_if] at hf
set_option maxHeartbeats 1000000 in
theorem ok_icmp_gt {off : Int} {tgt : Nat} (d : decode cc pc = .ok (.if_icmp .gt off, 3)) (ht : (pc : Int) + off = (tgt : Int)) : mm_Ok GW NW D cl tys ad cA K kd N l R own cc nL S pc (mi_cmp (fun x y => y < x) tgt) := by
  intro p e s m args below meth c A cells slots Q X o g g' P hpc hf hP9 hG h1 h2 H locs ls hP hD hS hL
  obtain ⟨M, pc', gl, st⟩ := g
  simp only at hpc
  subst hpc
  obtain ⟨⟨hx, hb, hml, hown⟩, hts, hnw, hK, hlay, hA, hlk, hcl, hsl⟩ := X
  simp only at h1 h2 hP hD hL
  obtain ⟨w, o2⟩ := o
  rcases w with _ | w <;> rcases st with _ | ⟨y | y, _ | ⟨x | x, t⟩⟩
  · simp [mi_cmp] at hf
  · simp [mi_cmp] at hf
  · obtain ⟨rfl, rfl⟩ := Prod.mk.inj (Option.some.inj (show some (((M, pc' + 3, gl, t) : mm_C), ¬ (y < x)) = some (g', P) from hf))
    exact lv_icmp_gt hx hb d ht (fun z => absurd z hP9) (fun _ => hG (sk_t (sk_t h1)) h2 H locs ls hP hD hS hL)
  · simp [mi_cmp] at hf
  · simp [mi_cmp] at hf
  · simp [mi_cmp] at hf
  · simp [mi_cmp] at hf
  · simp [mi_cmp] at hf
  · simp [mi_cmp] at hf
  · obtain ⟨rfl, rfl⟩ := Prod.mk.inj (Option.some.inj (show some (((M, tgt, gl, t) : mm_C), (y < x)) = some (g', P) from hf))
    exact lv_icmp_gt hx hb d ht (fun _ => hG (sk_t (sk_t h1)) h2 H locs ls hP hD hS hL) (fun z => absurd hP9 z)
  · simp [mi_cmp] at hf
  · simp [mi_cmp] at hf
  · simp [mi_cmp] at hf
  · simp [mi_cmp] at hf
set_option maxHeartbeats 1000000 in
theorem ok_if_le {off : Int} {tgt : Nat} (d : decode cc pc = .ok (.ifCond .le off, 3)) (ht : (pc : Int) + off = (tgt : Int)) : mm_Ok GW NW D cl tys ad cA K kd N l R own cc nL S pc (mi_if (fun x => x ≤ 0) tgt) := by
  intro p e s m args below meth c A cells slots Q X o g g' P hpc hf hP9 hG h1 h2 H locs ls hP hD hS hL
  obtain ⟨M, pc', gl, st⟩ := g
  simp only at hpc
  subst hpc
  obtain ⟨⟨hx, hb, hml, hown⟩, hts, hnw, hK, hlay, hA, hlk, hcl, hsl⟩ := X
  simp only at h1 h2 hP hD hL
  obtain ⟨w, o2⟩ := o
  rcases w with _ | w <;> rcases st with _ | ⟨x | x, t⟩
  · simp [mi_if] at hf
  · obtain ⟨rfl, rfl⟩ := Prod.mk.inj (Option.some.inj (show some (((M, pc' + 3, gl, t) : mm_C), ¬ (x ≤ 0)) = some (g', P) from hf))
    exact lv_if_le hx hb d ht (fun z => absurd z hP9) (fun _ => hG (sk_t h1) h2 H locs ls hP hD hS hL)
  · simp [mi_if] at hf
  · simp [mi_if] at hf
  · obtain ⟨rfl, rfl⟩ := Prod.mk.inj (Option.some.inj (show some (((M, tgt, gl, t) : mm_C), (x ≤ 0)) = some (g', P) from hf))
    exact lv_if_le hx hb d ht (fun _ => hG (sk_t h1) h2 H locs ls hP hD hS hL) (fun z => absurd hP9 z)
  · simp [mi_if] at hf
set_option maxHeartbeats 1000000 in
theorem ok_icmp_le {off : Int} {tgt : Nat} (d : decode cc pc = .ok (.if_icmp .le off, 3)) (ht : (pc : Int) + off = (tgt : Int)) : mm_Ok GW NW D cl tys ad cA K kd N l R own cc nL S pc (mi_cmp (fun x y => x ≤ y) tgt) := by
  intro p e s m args below meth c A cells slots Q X o g g' P hpc hf hP9 hG h1 h2 H locs ls hP hD hS hL
  obtain ⟨M, pc', gl, st⟩ := g
  simp only at hpc
  subst hpc
  obtain ⟨⟨hx, hb, hml, hown⟩, hts, hnw, hK, hlay, hA, hlk, hcl, hsl⟩ := X
  simp only at h1 h2 hP hD hL
  obtain ⟨w, o2⟩ := o
  rcases w with _ | w <;> rcases st with _ | ⟨y | y, _ | ⟨x | x, t⟩⟩
  · simp [mi_cmp] at hf
  · simp [mi_cmp] at hf
  · obtain ⟨rfl, rfl⟩ := Prod.mk.inj (Option.some.inj (show some (((M, pc' + 3, gl, t) : mm_C), ¬ (x ≤ y)) = some (g', P) from hf))
    exact lv_icmp_le hx hb d ht (fun z => absurd z hP9) (fun _ => hG (sk_t (sk_t h1)) h2 H locs ls hP hD hS hL)
  · simp [mi_cmp] at hf
  · simp [mi_cmp] at hf
  · simp [mi_cmp] at hf
  · simp [mi_cmp] at hf
  · simp [mi_cmp] at hf
  · simp [mi_cmp] at hf
  · obtain ⟨rfl, rfl⟩ := Prod.mk.inj (Option.some.inj (show some (((M, tgt, gl, t) : mm_C), (x ≤ y)) = some (g', P) from hf))
    exact lv_icmp_le hx hb d ht (fun _ => hG (sk_t (sk_t h1)) h2 H locs ls hP hD hS hL) (fun z => absurd hP9 z)
  · simp [mi_cmp] at hf
  · simp [mi_cmp] at hf
  · simp [mi_cmp] at hf
  · simp [mi_cmp] at hf
set_option maxHeartbeats 1000000 in
theorem ok_tsw {dflt lo hi : Int} {offs : Array Int} {len dt : Nat} {tgts : List Nat} (d : decode cc pc = .ok (.tableswitch dflt lo hi offs, len)) (hd : (pc : Int) + dflt = (dt : Int)) (hn : hi = lo + (tgts.length : Int) - 1) (ho : offs.toList.map (fun q => (pc : Int) + q) = tgts.map (fun q : Nat => (q : Int))) : mm_Ok GW NW D cl tys ad cA K kd N l R own cc nL S pc (mi_tsw lo hi tgts dt) := by
  intro p e s m args below meth c A cells slots Q X o g g' P hpc hf hP9 hG h1 h2 H locs ls hP hD hS hL
  obtain ⟨M, pc', gl, st⟩ := g
  simp only at hpc
  subst hpc
  obtain ⟨⟨hx, hb, hml, hown⟩, hts, hnw, hK, hlay, hA, hlk, hcl, hsl⟩ := X
  simp only at h1 h2 hP hD hL
  obtain ⟨w, o2⟩ := o
  rcases w with _ | w <;> rcases st with _ | ⟨x | x, t⟩
  · simp [mi_tsw] at hf
  · obtain ⟨rfl, rfl⟩ := Prod.mk.inj (Option.some.inj (show some (((M, dt, gl, t) : mm_C), (x.toInt < lo ∨ hi < x.toInt)) = some (g', P) from hf))
    exact lv_tableOut hx hb d hP9 hd (hG (sk_t h1) h2 H locs ls hP hD hS hL)
  · simp [mi_tsw] at hf
  · simp [mi_tsw] at hf
  · cases hg : tgts[w]? with
    | none => simp [mi_tsw, hg] at hf
    | some tg =>
      obtain ⟨rfl, rfl⟩ := Prod.mk.inj (Option.some.inj (show some (((M, tg, gl, t) : mm_C), (x.toInt = lo + w)) = some (g', P) from by rw [← hf]; simp [mi_tsw, hg]))
      have hlt := (List.getElem?_eq_some_iff.mp hg).1
      have h3 : (offs.toList.map (fun q => (pc' : Int) + q))[w]? = some (tg : Int) := by rw [ho, List.getElem?_map, hg]; rfl
      rw [List.getElem?_map] at h3
      cases h4 : offs.toList[w]? with
      | none => rw [h4] at h3; simp at h3
      | some off =>
        rw [h4] at h3
        have h5 : (pc' : Int) + off = (tg : Int) := by simpa using h3
        have h6 : x.toInt = lo + w := hP9
        exact lv_tableIn (tgt := tg) hx hb d (by omega) (by omega) (off := off) (by rw [show (x.toInt - lo).toNat = w by omega, ← Array.getElem?_toList]; exact h4) h5 (hG (sk_t h1) h2 H locs ls hP hD hS hL)
  · simp [mi_tsw] at hf
set_option maxHeartbeats 1000000 in
theorem ok_getf {ci k idx Nf : Nat} {C : String} {T : u_T} {F : List (Option (Nat × Nat))} (hc : cl[ci]? = some (C, T, Nf)) (hin : ∀ w ∈ u_ws C T Nf, w ∈ GW) (hk : k < Nf) (hl : Cond.fieldLink own idx (T k).1 (T k).2.1 (T k).2.2.1 ∈ GW) (hF : K ci = .inl F) (hFk : F[k]? = some none) (d : decode cc pc = .ok (.getfield idx, 3)) : mm_Ok GW NW D cl tys ad cA K kd N l R own cc nL S pc (mi_getf ci k) := by
  intro p e s m args below meth c A cells slots Q X o g g' P hpc hf hP9 hG h1 h2 H locs ls hP hD hS hL
  obtain ⟨M, pc', gl, st⟩ := g
  simp only at hpc
  subst hpc
  obtain ⟨⟨hx, hb, hml, hown⟩, hts, hnw, hK, hlay, hA, hlk, hcl, hsl⟩ := X
  simp only at h1 h2 hP hD hL
  rcases st with _ | ⟨y | ⟨c0, i⟩, t⟩
  · simp [mi_getf] at hf
  · simp [mi_getf] at hf
  · by_cases hci : c0 = ci
    · subst hci
      obtain ⟨rfl, rfl⟩ := Prod.mk.inj (Option.some.inj (show some (((M, pc' + 3, gl, .inl (M i k) :: t) : mm_C), True) = some (g', P) from by rw [← hf]; simp [mi_getf]))
      obtain ⟨hi, hkd⟩ := sk_h h1
      have he := mm_W_get (ad := ad) (cA := cA) (K := K) (kd := kd) (M := M) hi
      rw [hkd, mm_E_obj hF] at he
      have hv := mm_fs_int (ad := ad) (i := i) (r := M i) F 0 k hFk
      rw [Nat.zero_add] at hv
      exact va_get (own := own) (ref := (T k).1) (C := C) (T := T) (N := Nf) (ci := c0) hx hb hts hin hown hK hP i he hc k hk (hts _ hl) (fun _ h => h) hv d (hG (sk_i (sk_t h1)) h2 H locs ls hP hD hS hL)
    · simp [mi_getf, hci] at hf
set_option maxHeartbeats 1000000 in
theorem ok_getr {ck off : Nat} {ci k idx Nf : Nat} {C : String} {T : u_T} {F : List (Option (Nat × Nat))} (hc : cl[ci]? = some (C, T, Nf)) (hin : ∀ w ∈ u_ws C T Nf, w ∈ GW) (hk : k < Nf) (hl : Cond.fieldLink own idx (T k).1 (T k).2.1 (T k).2.2.1 ∈ GW) (hF : K ci = .inl F) (hFk : F[k]? = some (some (ck, off))) (d : decode cc pc = .ok (.getfield idx, 3)) : mm_Ok GW NW D cl tys ad cA K kd N l R own cc nL S pc (mi_getr ci ck off) := by
  intro p e s m args below meth c A cells slots Q X o g g' P hpc hf hP9 hG h1 h2 H locs ls hP hD hS hL
  obtain ⟨M, pc', gl, st⟩ := g
  simp only at hpc
  subst hpc
  obtain ⟨⟨hx, hb, hml, hown⟩, hts, hnw, hK, hlay, hA, hlk, hcl, hsl⟩ := X
  simp only at h1 h2 hP hD hL
  rcases st with _ | ⟨y | ⟨c0, i⟩, t⟩
  · simp [mi_getr] at hf
  · simp [mi_getr] at hf
  · by_cases hci : c0 = ci
    · subst hci
      obtain ⟨rfl, rfl⟩ := Prod.mk.inj (Option.some.inj (show some (((M, pc' + 3, gl, .inr (ck, i + off) :: t) : mm_C), True) = some (g', P) from by rw [← hf]; simp [mi_getr]))
      obtain ⟨hi, hkd⟩ := sk_h h1
      have he := mm_W_get (ad := ad) (cA := cA) (K := K) (kd := kd) (M := M) hi
      rw [hkd, mm_E_obj hF] at he
      have hv := mm_fs_ref (ad := ad) (i := i) (r := M i) F 0 k hFk
      have hl9 := hlay i hi
      rw [hkd, hF] at hl9
      exact va_get (own := own) (ref := (T k).1) (C := C) (T := T) (N := Nf) (ci := c0) hx hb hts hin hown hK hP i he hc k hk (hts _ hl) (fun _ h => h) hv d (hG (sk_r (hl9 k ck off hFk) (sk_t h1)) h2 H locs ls hP hD hS hL)
    · simp [mi_getr, hci] at hf
set_option maxHeartbeats 1000000 in
theorem ok_putf {ci k idx Nf : Nat} {C : String} {T : u_T} {F : List (Option (Nat × Nat))} (hc : cl[ci]? = some (C, T, Nf)) (hin : ∀ w ∈ u_ws C T Nf, w ∈ GW) (hk : k < Nf) (hl : Cond.fieldLink own idx (T k).1 (T k).2.1 (T k).2.2.1 ∈ GW) (hF : K ci = .inl F) (ty0 : Nat → FieldType) (hty : ∀ k, k < Nf → parseFieldDescriptor (T k).2.2.1 = some (ty0 k)) (hnm : ∀ a, a < Nf → ∀ b, b < Nf → a ≠ b → (T a).2.1 ≠ (T b).2.1) (hfin : (T k).2.2.2 = false) (hd : parseFieldDescriptor (T k).2.2.1 = some .int) (hFk : F[k]? = some none) (d : decode cc pc = .ok (.putfield idx, 3)) : mm_Ok GW NW D cl tys ad cA K kd N l R own cc nL S pc (mi_putf ci k) := by
  intro p e s m args below meth c A cells slots Q X o g g' P hpc hf hP9 hG h1 h2 H locs ls hP hD hS hL
  obtain ⟨M, pc', gl, st⟩ := g
  simp only at hpc
  subst hpc
  obtain ⟨⟨hx, hb, hml, hown⟩, hts, hnw, hK, hlay, hA, hlk, hcl, hsl⟩ := X
  simp only at h1 h2 hP hD hL
  rcases st with _ | ⟨x | x, _ | ⟨y | ⟨c0, i⟩, t⟩⟩
  · simp [mi_putf] at hf
  · simp [mi_putf] at hf
  · simp [mi_putf] at hf
  · by_cases hci : c0 = ci
    · subst hci
      obtain ⟨rfl, rfl⟩ := Prod.mk.inj (Option.some.inj (show some (((mm_up M i k x, pc' + 3, gl, t) : mm_C), True) = some (g', P) from by rw [← hf]; simp [mi_putf]))
      obtain ⟨hi, hkd⟩ := sk_h (sk_t h1)
      have he := mm_W_get (ad := ad) (cA := cA) (K := K) (kd := kd) (M := M) hi
      rw [hkd, mm_E_obj hF] at he
      have hset : (mm_W ad cA K kd N M).set i (ad i, .inr (c0, (mm_fs ad i (M i) 0 F).set k (.int x))) = mm_W ad cA K kd N (mm_up M i k x) := by
        refine mm_W_set ?_ (fun j hj => mm_up_i M k x hj)
        rw [hkd, mm_up_row, mm_E_obj hF, mm_fs_set F 0 k hFk, Nat.zero_add]
      refine va_put (own := own) (ref := (T k).1) (C := C) (T := T) (N := Nf) (ci := c0) (v := .int x) (ty := .int) hx hb hts hin ty0 hty hnm hown hK hP hD hS i he hc k hk (hts _ hl) (fun _ h => h) hfin hd rfl rfl (by rw [mm_fs_len]; exact (List.getElem?_eq_some_iff.mp hFk).1) d (fun H1 locs1 hP1 hD1 hS1 => ?_)
      rw [hset] at hP1 hD1
      exact hG (sk_t (sk_t h1)) h2 H1 locs1 ls hP1 hD1 hS1 hL
    · simp [mi_putf, hci] at hf
  · simp [mi_putf] at hf
  · simp [mi_putf] at hf
  · simp [mi_putf] at hf
set_option maxHeartbeats 1000000 in
theorem ok_putz {ci k idx Nf : Nat} {C : String} {T : u_T} {F : List (Option (Nat × Nat))} (hc : cl[ci]? = some (C, T, Nf)) (hin : ∀ w ∈ u_ws C T Nf, w ∈ GW) (hk : k < Nf) (hl : Cond.fieldLink own idx (T k).1 (T k).2.1 (T k).2.2.1 ∈ GW) (hF : K ci = .inl F) (ty0 : Nat → FieldType) (hty : ∀ k, k < Nf → parseFieldDescriptor (T k).2.2.1 = some (ty0 k)) (hnm : ∀ a, a < Nf → ∀ b, b < Nf → a ≠ b → (T a).2.1 ≠ (T b).2.1) (hfin : (T k).2.2.2 = false) (hd : parseFieldDescriptor (T k).2.2.1 = some .boolean) (hFk : F[k]? = some none) (d : decode cc pc = .ok (.putfield idx, 3)) : mm_Ok GW NW D cl tys ad cA K kd N l R own cc nL S pc (mi_putz ci k) := by
  intro p e s m args below meth c A cells slots Q X o g g' P hpc hf hP9 hG h1 h2 H locs ls hP hD hS hL
  obtain ⟨M, pc', gl, st⟩ := g
  simp only at hpc
  subst hpc
  obtain ⟨⟨hx, hb, hml, hown⟩, hts, hnw, hK, hlay, hA, hlk, hcl, hsl⟩ := X
  simp only at h1 h2 hP hD hL
  rcases st with _ | ⟨x | x, _ | ⟨y | ⟨c0, i⟩, t⟩⟩
  · simp [mi_putz] at hf
  · simp [mi_putz] at hf
  · simp [mi_putz] at hf
  · by_cases hci : c0 = ci
    · subst hci
      obtain ⟨rfl, rfl⟩ := Prod.mk.inj (Option.some.inj (show some (((mm_up M i k x, pc' + 3, gl, t) : mm_C), x = 0 ∨ x = 1) = some (g', P) from by rw [← hf]; simp [mi_putz]))
      obtain ⟨hi, hkd⟩ := sk_h (sk_t h1)
      have he := mm_W_get (ad := ad) (cA := cA) (K := K) (kd := kd) (M := M) hi
      rw [hkd, mm_E_obj hF] at he
      have hset : (mm_W ad cA K kd N M).set i (ad i, .inr (c0, (mm_fs ad i (M i) 0 F).set k (.int x))) = mm_W ad cA K kd N (mm_up M i k x) := by
        refine mm_W_set ?_ (fun j hj => mm_up_i M k x hj)
        rw [hkd, mm_up_row, mm_E_obj hF, mm_fs_set F 0 k hFk, Nat.zero_add]
      refine va_put (own := own) (ref := (T k).1) (C := C) (T := T) (N := Nf) (ci := c0) (v := .int x) (ty := .boolean) hx hb hts hin ty0 hty hnm hown hK hP hD hS i he hc k hk (hts _ hl) (fun _ h => h) hfin hd (by rcases hP9 with rfl | rfl <;> rfl) (by rcases hP9 with rfl | rfl <;> rfl) (by rw [mm_fs_len]; exact (List.getElem?_eq_some_iff.mp hFk).1) d (fun H1 locs1 hP1 hD1 hS1 => ?_)
      rw [hset] at hP1 hD1
      exact hG (sk_t (sk_t h1)) h2 H1 locs1 ls hP1 hD1 hS1 hL
    · simp [mi_putz, hci] at hf
  · simp [mi_putz] at hf
  · simp [mi_putz] at hf
  · simp [mi_putz] at hf
set_option maxHeartbeats 1000000 in
theorem ok_iald {ck t9 n : Nat} (hn : n < 2 ^ 31) (hF : K ck = .inr (.inl (t9, n))) (ht : tys[t9]? = some (cA t9, .int)) (d : decode cc pc = .ok (.iaload, 1)) : mm_Ok GW NW D cl tys ad cA K kd N l R own cc nL S pc (mi_ald ck n) := by
  intro p e s m args below meth c A cells slots Q X o g g' P hpc hf hP9 hG h1 h2 H locs ls hP hD hS hL
  obtain ⟨M, pc', gl, st⟩ := g
  simp only at hpc
  subst hpc
  obtain ⟨⟨hx, hb, hml, hown⟩, hts, hnw, hK, hlay, hA, hlk, hcl, hsl⟩ := X
  simp only at h1 h2 hP hD hL
  rcases st with _ | ⟨x | x, _ | ⟨y | ⟨c0, i⟩, t⟩⟩
  · simp [mi_ald] at hf
  · simp [mi_ald] at hf
  · simp [mi_ald] at hf
  · by_cases hci : c0 = ck
    · subst hci
      obtain ⟨rfl, rfl⟩ := Prod.mk.inj (Option.some.inj (show some (((M, pc' + 1, gl, .inl (M i o.1) :: t) : mm_C), x = nI o.1 ∧ o.1 < n) = some (g', P) from by rw [← hf]; simp [mi_ald]))
      obtain ⟨rfl, hj⟩ := hP9
      have hcl9 := nI_clamp (n := o.1) (by omega)
      obtain ⟨hi, hkd⟩ := sk_h (sk_t h1)
      have he := mm_W_get (ad := ad) (cA := cA) (K := K) (kd := kd) (M := M) hi
      rw [hkd, mm_E_prim hF] at he
      refine va_iald hx hb hK hP i t9 he ht (vp_in_nI hj hn) d ?_
      rw [hcl9]
      exact hG (sk_i (sk_t (sk_t h1))) h2 H locs ls hP hD hS hL
    · simp [mi_ald, hci] at hf
  · simp [mi_ald] at hf
  · simp [mi_ald] at hf
  · simp [mi_ald] at hf
set_option maxHeartbeats 1000000 in
theorem ok_zald {ck t9 n : Nat} (hn : n < 2 ^ 31) (hF : K ck = .inr (.inl (t9, n))) (ht : tys[t9]? = some (cA t9, .boolean)) (d : decode cc pc = .ok (.baload, 1)) : mm_Ok GW NW D cl tys ad cA K kd N l R own cc nL S pc (mi_ald ck n) := by
  intro p e s m args below meth c A cells slots Q X o g g' P hpc hf hP9 hG h1 h2 H locs ls hP hD hS hL
  obtain ⟨M, pc', gl, st⟩ := g
  simp only at hpc
  subst hpc
  obtain ⟨⟨hx, hb, hml, hown⟩, hts, hnw, hK, hlay, hA, hlk, hcl, hsl⟩ := X
  simp only at h1 h2 hP hD hL
  rcases st with _ | ⟨x | x, _ | ⟨y | ⟨c0, i⟩, t⟩⟩
  · simp [mi_ald] at hf
  · simp [mi_ald] at hf
  · simp [mi_ald] at hf
  · by_cases hci : c0 = ck
    · subst hci
      obtain ⟨rfl, rfl⟩ := Prod.mk.inj (Option.some.inj (show some (((M, pc' + 1, gl, .inl (M i o.1) :: t) : mm_C), x = nI o.1 ∧ o.1 < n) = some (g', P) from by rw [← hf]; simp [mi_ald]))
      obtain ⟨rfl, hj⟩ := hP9
      have hcl9 := nI_clamp (n := o.1) (by omega)
      obtain ⟨hi, hkd⟩ := sk_h (sk_t h1)
      have he := mm_W_get (ad := ad) (cA := cA) (K := K) (kd := kd) (M := M) hi
      rw [hkd, mm_E_prim hF] at he
      refine va_zald hx hb hK hP i t9 he ht (vp_in_nI hj hn) d ?_
      rw [hcl9]
      exact hG (sk_i (sk_t (sk_t h1))) h2 H locs ls hP hD hS hL
    · simp [mi_ald, hci] at hf
  · simp [mi_ald] at hf
  · simp [mi_ald] at hf
  · simp [mi_ald] at hf
set_option maxHeartbeats 1000000 in
theorem ok_iast {ck t9 n : Nat} (hn : n < 2 ^ 31) (hF : K ck = .inr (.inl (t9, n))) (ht : tys[t9]? = some (cA t9, .int)) (d : decode cc pc = .ok (.iastore, 1)) : mm_Ok GW NW D cl tys ad cA K kd N l R own cc nL S pc (mi_ast ck n) := by
  intro p e s m args below meth c A cells slots Q X o g g' P hpc hf hP9 hG h1 h2 H locs ls hP hD hS hL
  obtain ⟨M, pc', gl, st⟩ := g
  simp only at hpc
  subst hpc
  obtain ⟨⟨hx, hb, hml, hown⟩, hts, hnw, hK, hlay, hA, hlk, hcl, hsl⟩ := X
  simp only at h1 h2 hP hD hL
  rcases st with _ | ⟨v | v, _ | ⟨x | x, _ | ⟨y | ⟨c0, i⟩, t⟩⟩⟩
  · simp [mi_ast] at hf
  · simp [mi_ast] at hf
  · simp [mi_ast] at hf
  · simp [mi_ast] at hf
  · by_cases hci : c0 = ck
    · subst hci
      obtain ⟨rfl, rfl⟩ := Prod.mk.inj (Option.some.inj (show some (((mm_up M i o.1 v, pc' + 1, gl, t) : mm_C), x = nI o.1 ∧ o.1 < n) = some (g', P) from by rw [← hf]; simp [mi_ast]))
      have hj := hP9
      obtain ⟨rfl, hj⟩ := hj
      have hcl9 := nI_clamp (n := o.1) (by omega)
      obtain ⟨hi, hkd⟩ := sk_h (sk_t (sk_t h1))
      have he := mm_W_get (ad := ad) (cA := cA) (K := K) (kd := kd) (M := M) hi
      rw [hkd, mm_E_prim hF] at he
      have hset : (mm_W ad cA K kd N M).set i (ad i, .inl (cA t9, n, .inl (upd (M i) (nI o.1).toNatClampNeg v))) = mm_W ad cA K kd N (mm_up M i o.1 v) := by
        refine mm_W_set ?_ (fun j hj => mm_up_i M _ v hj)
        rw [hkd, mm_up_row, mm_E_prim hF, hcl9]
      refine va_iast hx hb hK hP hD hS i t9 he ht (vp_in_nI hj hn) d (fun H1 locs1 hP1 hD1 hS1 => ?_)
      rw [hset] at hP1 hD1
      exact hG (sk_t (sk_t (sk_t h1))) h2 H1 locs1 ls hP1 hD1 hS1 hL
    · simp [mi_ast, hci] at hf
  · simp [mi_ast] at hf
  · simp [mi_ast] at hf
  · simp [mi_ast] at hf
  · simp [mi_ast] at hf
  · simp [mi_ast] at hf
  · simp [mi_ast] at hf
  · simp [mi_ast] at hf
  · simp [mi_ast] at hf
  · simp [mi_ast] at hf
  · simp [mi_ast] at hf
set_option maxHeartbeats 1000000 in
theorem ok_zast {ck t9 n : Nat} (hn : n < 2 ^ 31) (hF : K ck = .inr (.inl (t9, n))) (ht : tys[t9]? = some (cA t9, .boolean)) (d : decode cc pc = .ok (.bastore, 1)) : mm_Ok GW NW D cl tys ad cA K kd N l R own cc nL S pc (mi_zst ck n) := by
  intro p e s m args below meth c A cells slots Q X o g g' P hpc hf hP9 hG h1 h2 H locs ls hP hD hS hL
  obtain ⟨M, pc', gl, st⟩ := g
  simp only at hpc
  subst hpc
  obtain ⟨⟨hx, hb, hml, hown⟩, hts, hnw, hK, hlay, hA, hlk, hcl, hsl⟩ := X
  simp only at h1 h2 hP hD hL
  rcases st with _ | ⟨v | v, _ | ⟨x | x, _ | ⟨y | ⟨c0, i⟩, t⟩⟩⟩
  · simp [mi_zst] at hf
  · simp [mi_zst] at hf
  · simp [mi_zst] at hf
  · simp [mi_zst] at hf
  · by_cases hci : c0 = ck
    · subst hci
      obtain ⟨rfl, rfl⟩ := Prod.mk.inj (Option.some.inj (show some (((mm_up M i o.1 v, pc' + 1, gl, t) : mm_C), (x = nI o.1 ∧ o.1 < n) ∧ (v = 0 ∨ v = 1)) = some (g', P) from by rw [← hf]; simp [mi_zst]))
      have hj := hP9.1
      obtain ⟨rfl, hj⟩ := hj
      have hcl9 := nI_clamp (n := o.1) (by omega)
      obtain ⟨hi, hkd⟩ := sk_h (sk_t (sk_t h1))
      have he := mm_W_get (ad := ad) (cA := cA) (K := K) (kd := kd) (M := M) hi
      rw [hkd, mm_E_prim hF] at he
      have hset : (mm_W ad cA K kd N M).set i (ad i, .inl (cA t9, n, .inl (upd (M i) (nI o.1).toNatClampNeg (vp_nar .boolean v)))) = mm_W ad cA K kd N (mm_up M i o.1 v) := by
        refine mm_W_set ?_ (fun j hj => mm_up_i M _ v hj)
        rw [hkd, mm_up_row, mm_E_prim hF, hcl9]
        rcases hP9.2 with rfl | rfl <;> rfl
      refine va_zast hx hb hK hP hD hS i t9 he ht (vp_in_nI hj hn) d (fun H1 locs1 hP1 hD1 hS1 => ?_)
      rw [hset] at hP1 hD1
      exact hG (sk_t (sk_t (sk_t h1))) h2 H1 locs1 ls hP1 hD1 hS1 hL
    · simp [mi_zst, hci] at hf
  · simp [mi_zst] at hf
  · simp [mi_zst] at hf
  · simp [mi_zst] at hf
  · simp [mi_zst] at hf
  · simp [mi_zst] at hf
  · simp [mi_zst] at hf
  · simp [mi_zst] at hf
  · simp [mi_zst] at hf
  · simp [mi_zst] at hf
  · simp [mi_zst] at hf
set_option maxHeartbeats 1000000 in
theorem ok_aald {ck t9 n ek off : Nat} {C : String} (hn : n < 2 ^ 31) (hF : K ck = .inr (.inr (t9, n, ek, off))) (ht : tys[t9]? = some (cA t9, .object C)) (d : decode cc pc = .ok (.aaload, 1)) : mm_Ok GW NW D cl tys ad cA K kd N l R own cc nL S pc (mi_aald ck n ek off) := by
  intro p e s m args below meth c A cells slots Q X o g g' P hpc hf hP9 hG h1 h2 H locs ls hP hD hS hL
  obtain ⟨M, pc', gl, st⟩ := g
  simp only at hpc
  subst hpc
  obtain ⟨⟨hx, hb, hml, hown⟩, hts, hnw, hK, hlay, hA, hlk, hcl, hsl⟩ := X
  simp only at h1 h2 hP hD hL
  rcases st with _ | ⟨x | x, _ | ⟨y | ⟨c0, i⟩, t⟩⟩
  · simp [mi_aald] at hf
  · simp [mi_aald] at hf
  · simp [mi_aald] at hf
  · by_cases hci : c0 = ck
    · subst hci
      obtain ⟨rfl, rfl⟩ := Prod.mk.inj (Option.some.inj (show some (((M, pc' + 1, gl, .inr (ek, i + off + o.1) :: t) : mm_C), x = nI o.1 ∧ o.1 < n) = some (g', P) from by rw [← hf]; simp [mi_aald]))
      obtain ⟨rfl, hj⟩ := hP9
      have hcl9 := nI_clamp (n := o.1) (by omega)
      obtain ⟨hi, hkd⟩ := sk_h (sk_t h1)
      have he := mm_W_get (ad := ad) (cA := cA) (K := K) (kd := kd) (M := M) hi
      rw [hkd, mm_E_refs hF] at he
      have hl9 := hlay i hi
      rw [hkd, hF] at hl9
      refine va_aldq hx hb hK hP i t9 he ht (vp_in_nI hj hn) d ?_
      rw [hcl9]
      exact hG (sk_r (hl9 _ hj) (sk_t (sk_t h1))) h2 H locs ls hP hD hS hL
    · simp [mi_aald, hci] at hf
  · simp [mi_aald] at hf
  · simp [mi_aald] at hf
  · simp [mi_aald] at hf
set_option maxHeartbeats 1000000 in
theorem ok_alen {ck t9 n : Nat} {ty : FieldType} (hF : K ck = .inr (.inl (t9, n))) (ht : tys[t9]? = some (cA t9, ty)) (d : decode cc pc = .ok (.arraylength, 1)) : mm_Ok GW NW D cl tys ad cA K kd N l R own cc nL S pc (mi_alen ck n) := by
  intro p e s m args below meth c A cells slots Q X o g g' P hpc hf hP9 hG h1 h2 H locs ls hP hD hS hL
  obtain ⟨M, pc', gl, st⟩ := g
  simp only at hpc
  subst hpc
  obtain ⟨⟨hx, hb, hml, hown⟩, hts, hnw, hK, hlay, hA, hlk, hcl, hsl⟩ := X
  simp only at h1 h2 hP hD hL
  rcases st with _ | ⟨y | ⟨c0, i⟩, t⟩
  · simp [mi_alen] at hf
  · simp [mi_alen] at hf
  · by_cases hci : c0 = ck
    · subst hci
      obtain ⟨rfl, rfl⟩ := Prod.mk.inj (Option.some.inj (show some (((M, pc' + 1, gl, .inl (nI n) :: t) : mm_C), True) = some (g', P) from by rw [← hf]; simp [mi_alen]))
      obtain ⟨hi, hkd⟩ := sk_h h1
      have he := mm_W_get (ad := ad) (cA := cA) (K := K) (kd := kd) (M := M) hi
      rw [hkd, mm_E_prim hF] at he
      exact va_alen hx hb hK hP i t9 he ht rfl d (hG (sk_i (sk_t h1)) h2 H locs ls hP hD hS hL)
    · simp [mi_alen, hci] at hf
set_option maxHeartbeats 1000000 in
theorem ok_copy {idx ck t9 n9 : Nat} (hn : n9 < 2 ^ 31) (hF : K ck = .inr (.inl (t9, n9))) (ht : tys[t9]? = some (cA t9, .int)) (w1 : Cond.methodLink own idx arraycopyName ∈ GW) (w2 : Cond.native arraycopyName ∈ GW) (w3 : Cond.static arraycopyName ∈ GW) (w4 : Cond.initialized "java/lang/System" ∈ GW) (hR : 1 ≤ R.frames ∧ 30 ≤ R.locals) (d : decode cc pc = .ok (.invokestatic idx, 3)) : mm_Ok GW NW D cl tys ad cA K kd N l R own cc nL S pc (mi_copy ck n9) := by
  intro p e s m args below meth c A cells slots Q X o g g' P hpc hf hP9 hG h1 h2 H locs ls hP hD hS hL
  obtain ⟨M, pc', gl, st⟩ := g
  simp only at hpc
  subst hpc
  obtain ⟨⟨hx, hb, hml, hown⟩, hts, hnw, hK, hlay, hA, hlk, hcl, hsl⟩ := X
  simp only at h1 h2 hP hD hL
  match st, hf, h1 with
  | .inl n :: .inl dp :: .inr (c1, i1) :: .inl sp :: .inr (c0, i0) :: t, hf, h1 =>
    by_cases hci : c0 = ck ∧ c1 = ck
    · obtain ⟨rfl, rfl⟩ := hci
      obtain ⟨rfl, rfl⟩ := Prod.mk.inj (Option.some.inj (show some (((mm_cp M i0 i1 o.1, pc' + 3, gl, t) : mm_C), (sp = 0 ∧ dp = 0 ∧ n = nI o.1 ∧ o.1 ≤ n9 ∧ t.length ≤ 8)) = some (g', P) from by rw [← hf]; simp [mi_copy]))
      obtain ⟨rfl, rfl, rfl, hj, hl9⟩ := hP9
      have hcl9 := nI_clamp (n := o.1) (by omega)
      have h0 : (0 : Int32).toNatClampNeg = 0 := by decide
      obtain ⟨hi0, hkd0⟩ := sk_h (sk_t (sk_t (sk_t (sk_t h1))))
      obtain ⟨hi1, hkd1⟩ := sk_h (sk_t (sk_t h1))
      have he0 := mm_W_get (ad := ad) (cA := cA) (K := K) (kd := kd) (M := M) hi0
      rw [hkd0, mm_E_prim hF] at he0
      have he1 := mm_W_get (ad := ad) (cA := cA) (K := K) (kd := kd) (M := M) hi1
      rw [hkd1, mm_E_prim hF] at he1
      have hsum : ((t.map (mm_v ad)).map fun v => v.category).sum = t.length := mm_sum t
      have hset : (mm_W ad cA K kd N M).set i1 (ad i1, .inl (cA t9, n9, .inl (va_cpy (M i0) (M i1) (0 : Int32).toNatClampNeg (0 : Int32).toNatClampNeg (nI o.1).toNatClampNeg))) = mm_W ad cA K kd N (mm_cp M i0 i1 o.1) := by
        refine mm_W_set ?_ (fun j hj => mm_cp_i M i0 o.1 hj)
        rw [hkd1, mm_E_prim hF, hcl9, h0, mm_cp_row]
      refine va_copyi hx hb (by rw [hml]; exact hL.1.symm) hown (hts _ w1) (hts _ w2) (hts _ w3) (hts _ w4) hK hP hD hS i0 i1 t9 t9 he0 he1 ht ht rfl (by decide) (by decide) (nI_pos (by omega)) (by rw [hcl9, h0]; omega) (by rw [hcl9, h0]; omega) (fun _ _ => rfl) hR.1 (by rw [hsum, show nativeFrameWords "java/lang/System" "arraycopy" 5 = 7 by decide]; omega) d (fun H1 locs1 hP1 hD1 hS1 => ?_)
      rw [hset] at hP1 hD1
      exact hG (sk_t (sk_t (sk_t (sk_t (sk_t h1))))) h2 H1 locs1 ls hP1 hD1 hS1 hL
    · simp [mi_copy, hci] at hf
end MM2
end
section
section MM3
variable {GW : List Cond} {NW : List mm_N} {D : va_G} {cl : List vw_C} {tys : List (ClassId × FieldType)} {ad : Nat → Nat} {cA : Nat → ClassId} {K : Nat → mm_K} {kd : Nat → Nat} {N : Nat}
def mm_Pre (NW : List mm_N) (D : va_G) (cl : List vw_C) (tys : List (ClassId × FieldType)) (ad : Nat → Nat) (cA : Nat → ClassId) (K : Nat → mm_K) (kd : Nat → Nat) (N : Nat) (M : mm_M) (as : List mm_V) (sz : Nat) : Array Value → State → Prop :=
  va_Pc (as.map (mm_v ad)) (fun U => U.heap.size = sz ∧ va_P D cl (mm_W ad cA K kd N M) U.heap ∧ va_K D cl tys U ∧ va_D (fun _ => True) (mm_W ad cA K kd N M) ∧ mm_nw NW U)
def mm_Post (D : va_G) (cl : List vw_C) (ad : Nat → Nat) (cA : Nat → ClassId) (K : Nat → mm_K) (kd : Nat → Nat) (N : Nat) (r : Option Int32) (M : mm_M) (A : Nat → Prop) : Array Value → State → Outcome → State → Prop :=
  fun _ st oc t => (oc = .returned (r.map Value.int) ∧ va_P D cl (mm_W ad cA K kd N M) t.heap ∧ va_D A (mm_W ad cA K kd N M)) ∧ va_F A st t
def mm_rm (d : Nat) : Room := { frames := d, cells := 0, slots := 0, locals := 60 * d }
/-- the methods: name, code, locals, answer, class -/
abbrev mm_T : Type := (Nat → MethodName) × (Nat → ByteArray) × (Nat → Nat) × (Nat → Option FieldType)
def mm_ws (GW : List Cond) (T : mm_T) (z : Nat) : List Cond := Cond.code (T.1 z) (T.2.1 z) (T.2.2.1 z) (T.2.2.2 z) :: GW
def mm_Sound (GW : List Cond) (NW : List mm_N) (D : va_G) (cl : List vw_C) (tys : List (ClassId × FieldType)) (ad : Nat → Nat) (cA : Nat → ClassId) (K : Nat → mm_K) (kd : Nat → Nat) (N : Nat) (l : Launch) (T : mm_T) (rm : Room) (S : mm_S) : Prop :=
  ∀ (z : Nat) (M : mm_M) (as : List mm_V) (r : Option Int32) (M' : mm_M) (sz : Nat), S z M as (r, M') → (∀ v ∈ as, mm_ok kd N v) →
    Met l (T.1 z) (mm_ws GW T z) rm (mm_Pre NW D cl tys ad cA K kd N M as sz) (mm_Post D cl ad cA K kd N r M' (va_A (mm_W ad cA K kd N M) sz)) 0 0 (va_A (mm_W ad cA K kd N M) sz)
theorem mm_nw_warm {s U : State} (hW : s.WarmedH U.vm) (h : mm_nw NW s) : mm_nw NW U := fun q hq => va_Nw.warmM hW (h q hq)
theorem mm_blind {M : mm_M} {as : List mm_V} {sz : Nat} : FrameBlind (mm_Pre NW D cl tys ad cA K kd N M as sz) := fun a U g mk q => by
  obtain ⟨q0, q1, qP, qK, qD, qN⟩ := q
  exact ⟨q0, q1, qP, va_K.moved (u := U) (U := U.calling g mk a) (Vm.Alike.refl U.vm) qK, qD, fun w hw => va_Nw.same rfl rfl (qN w hw)⟩
theorem mm_good {T : mm_T} {z : Nat} (hg : ∀ w ∈ GW, goodWord w = true) (hc : Cond.code (T.1 z) (T.2.1 z) (T.2.2.1 z) (T.2.2.2 z) ∈ GW) : GoodIn GW (mm_ws GW T z) := fun w hw => by
  rcases List.mem_cons.mp hw with h | h
  · rw [h]; exact ⟨hc, good_of_word (hg _ hc)⟩
  · exact ⟨h, good_of_word (hg _ h)⟩
theorem mm_goodA {T : mm_T} {z : Nat} {L : List Cond} (hg : ∀ w ∈ GW, goodWord w = true) (hc : Cond.code (T.1 z) (T.2.1 z) (T.2.2.1 z) (T.2.2.2 z) ∈ GW) (hL : ∀ w ∈ L, w ∈ GW) : GoodIn GW (L ++ mm_ws GW T z) := fun w hw => by
  rcases List.mem_append.mp hw with h | h
  · exact ⟨hL w h, good_of_word (hg _ (hL w h))⟩
  · exact mm_good hg hc w h
section RUN
variable {p : Program} {l : Launch} {e : Env} {R : Room} {s : State} {m : MethodId} {args : Array Value} {below : List Frame} {meth : Method} {c : Code} {H : Heap} {locs : List Loc} {cells slots : Nat} {Q : State → Prop}
variable {pc : Nat} {ls : Array Slot} {rest st0 : List Value} {a : Array Value} {A0 A1 : Nat → Prop} {H0 : Heap} {free : Addr → Prop}
theorem mm_run {r : Option Int32} {M' : mm_M} (hr : va_Run p l e R s m args below meth c H locs cells slots 0 0 (F0 m pc ls st0) rest (mm_Post D cl ad cA K kd N r M' A1 a) free) (hS : va_S A0 H0 H locs) (hA : ∀ q, q < H.size → A1 q → A0 q) (hf : ∀ q, free q → A0 q)
    (kk : ∀ (H1 : Heap) (locs1 : List Loc), va_P D cl (mm_W ad cA K kd N M') H1 → va_D A1 (mm_W ad cA K kd N M') → va_S A0 H0 H1 locs1 → W p l e R s m args below meth c H1 locs1 cells slots Q (F0 m (pc + 3) ls ((r.map Value.int).toList ++ rest))) : W p l e R s m args below meth c H locs cells slots Q (F0 m pc ls st0) := by
  intro T hT X
  obtain ⟨v, st₀, t, T', L, h0, X', hL, e1, e2, ⟨⟨hv, hp, hb⟩, hz, hk⟩, st⟩ := hr T hT X
  cases hv
  rw [h0] at hz hk
  obtain ⟨t2, a1, b1⟩ := kk T'.heap (locs ++ L) (by rw [e1]; exact hp) hb
    ⟨Nat.le_trans hS.1 (by rw [e1]; exact hz), fun q h1 h2 => by rw [e1, hk q (Nat.lt_of_lt_of_le h1 hS.1) (fun z => h2 (hA q (Nat.lt_of_lt_of_le h1 hS.1) z))]; exact hS.2.1 q h1 h2, fun q hq => by
      rcases List.mem_append.mp hq with h | h
      · exact hS.2.2 q h
      · exact hf _ (hL q h)⟩ T' rfl X'
  exact ⟨t2, st t2 a1, b1⟩
end RUN
theorem mm_in {A : Nat → Prop} {M : mm_M} {H0 H : Heap} {locs : List Loc} (hD : va_D A (mm_W ad cA K kd N M)) (hS : va_S A H0 H locs) (hA : ∀ q, H0.size ≤ q → A q) : ∀ q, va_A (mm_W ad cA K kd N M) H.size q → A q := fun q h => by
  rcases h with ⟨k, e, h⟩ | h
  · exact hD.2 k _ h
  · exact hA q (Nat.le_trans hS.1 h)
variable {l : Launch} {R : Room} {own : String} {cc : ByteArray} {nL pc : Nat} {S : mm_S} {T : mm_T} {rm : Room}
theorem mm_split {st As : List mm_V} {q : mm_V} {n : Nat} (h : (st.take n).reverse = q :: As) : st = As.reverse ++ q :: st.drop n := by
  have h1 : st.take n = (q :: As).reverse := by rw [← h, List.reverse_reverse]
  have h2 := List.take_append_drop n st
  rw [h1] at h2
  simpa using h2.symm
theorem mm_split0 {st As : List mm_V} {n : Nat} (h : (st.take n).reverse = As) : st = As.reverse ++ st.drop n := by
  rw [← h, List.reverse_reverse, List.take_append_drop]
set_option maxHeartbeats 1000000 in
theorem ok_callV {ci idx z n Nf : Nat} {C : String} {Tb : u_T} (hc : cl[ci]? = some (C, Tb, Nf)) (hS : mm_Sound GW NW D cl tys ad cA K kd N l T rm S) (hrm : rm.cells = 0 ∧ rm.slots = 0) (hR : rm.frames + 1 ≤ R.frames ∧ 8 + (T.2.2.1 z + 11) + rm.locals ≤ R.locals) {F : List (Option (Nat × Nat))} (hF : K ci = .inl F)
    (hg : ∀ w ∈ GW, goodWord w = true) (hcd : Cond.code (T.1 z) (T.2.1 z) (T.2.2.1 z) (T.2.2.2 z) ∈ GW) (hw : ∀ w ∈ [Cond.methodLink own idx (T.1 z), .instanceMethod (T.1 z), .selects C (T.1 z) (T.1 z), .initialized C], w ∈ GW)
    (hd : (T.1 z).cls = C ∧ (T.1 z).cls ≠ "java/lang/invoke/MethodHandle" ∧ (T.1 z).cls ≠ "java/lang/invoke/VarHandle" ∧ (parseMethodDescriptor (T.1 z).desc).map (fun d => d.parameters.length) = some n) (d : decode cc pc = .ok (.invokevirtual idx, 3)) :
    mm_Ok GW NW D cl tys ad cA K kd N l R own cc nL S pc (mi_call z (n + 1) (some ci)) := by
  intro p e s m args below meth c A cells slots Q X o g g' P hpc hf hP9 hG h1 h2 H locs ls hP hD hS9 hL
  obtain ⟨M, pc', gl, st⟩ := g
  simp only at hpc
  subst hpc
  obtain ⟨⟨hx, hb, hml, hown⟩, hts, hnw, hK, hlay, hA, hlk, hcl, hsl⟩ := X
  simp only at h1 h2 hP hD hL
  obtain ⟨w, r, M'⟩ := o
  obtain ⟨rfl, rfl⟩ := Prod.mk.inj (Option.some.inj hf)
  obtain ⟨hSem, hn, hrest, i, hhd⟩ := hP9
  simp only at hSem hn hrest hhd
  cases has : (st.take (n + 1)).reverse with
  | nil => rw [has] at hhd; simp at hhd
  | cons q As =>
    rw [has] at hhd hSem
    have hq : q = .inr (ci, i) := by simpa using hhd
    subst hq
    have hst := mm_split has
    have hlen : As.length = n := by
      have h3 := congrArg List.length has
      simp at h3
      omega
    have hval : ∀ v ∈ ((.inr (ci, i) : mm_V) :: As), mm_ok kd N v := fun v hv => h1 v (by
      have : v ∈ (st.take (n + 1)).reverse := by rw [has]; exact hv
      exact List.mem_of_mem_take (List.mem_reverse.mp this))
    obtain ⟨hi, hkd⟩ := sk_h hval
    have he := mm_W_get (ad := ad) (cA := cA) (K := K) (kd := kd) (M := M) hi
    rw [hkd, mm_E_obj hF] at he
    have hM := hS z M (.inr (ci, i) :: As) r M' H.size hSem hval
    have hin := mm_in hD hS9 hA
    have hroom : ((((st.drop (n + 1)).map (mm_v ad)).map fun v => v.category)).sum ≤ 8 := by rw [mm_sum]; exact hrest
    have hstk : st.map (mm_v ad) = (As.map (mm_v ad)).reverse ++ Value.ref (ad i) :: (st.drop (n + 1)).map (mm_v ad) := by
      conv => lhs; rw [hst]
      simp [mm_v]
    refine mm_run (va_runV (As := As.map (mm_v ad)) (rest := (st.drop (n + 1)).map (mm_v ad)) (b := ad i) ⟨hx, hb, hml, hown, hts⟩ hM (cwV n hts (mm_goodA hg hcd hw) rfl hrm.1 hrm.2 hd hR) ⟨mm_blind, va_recv hK hP hc he, fun U hU hW => ⟨rfl, by rw [hU], by rw [hU]; exact hP, va_K.moved hW.alike hK, hD.weaken (fun _ _ _ _ => trivial), mm_nw_warm hW hnw⟩⟩ rfl (by simp [hlen]) hL.1 hstk (lv_room hroom) d ⟨hcl, hsl⟩) hS9 (fun q _ h => hin q h) hin (fun H1 locs1 hP1 hD1 hS1 => ?_)
    have hk := hG (by
      cases r with
      | none => exact fun v hv => h1 v (List.mem_of_mem_drop hv)
      | some r => exact sk_i (fun v hv => h1 v (List.mem_of_mem_drop hv))) h2 H1 locs1 ls hP1 (hD1.weaken (fun _ q _ h => hin q.1 h)) hS1 hL
    cases r with
    | none => exact hk
    | some r => exact hk
set_option maxHeartbeats 1000000 in
theorem ok_callS {idx z n : Nat} (hS : mm_Sound GW NW D cl tys ad cA K kd N l T rm S) (hrm : rm.cells = 0 ∧ rm.slots = 0) (hR : rm.frames + 1 ≤ R.frames ∧ 8 + (T.2.2.1 z + 11) + rm.locals ≤ R.locals)
    (hg : ∀ w ∈ GW, goodWord w = true) (hcd : Cond.code (T.1 z) (T.2.1 z) (T.2.2.1 z) (T.2.2.2 z) ∈ GW) (hw : ∀ w ∈ [Cond.methodLink own idx (T.1 z), .static (T.1 z), .initialized (T.1 z).cls], w ∈ GW)
    (hd : (T.1 z).cls ≠ "java/lang/invoke/MethodHandle" ∧ (T.1 z).cls ≠ "java/lang/invoke/VarHandle" ∧ (parseMethodDescriptor (T.1 z).desc).map (fun d => d.parameters.length) = some n) (d : decode cc pc = .ok (.invokestatic idx, 3)) :
    mm_Ok GW NW D cl tys ad cA K kd N l R own cc nL S pc (mi_call z n none) := by
  intro p e s m args below meth c A cells slots Q X o g g' P hpc hf hP9 hG h1 h2 H locs ls hP hD hS9 hL
  obtain ⟨M, pc', gl, st⟩ := g
  simp only at hpc
  subst hpc
  obtain ⟨⟨hx, hb, hml, hown⟩, hts, hnw, hK, hlay, hA, hlk, hcl, hsl⟩ := X
  simp only at h1 h2 hP hD hL
  obtain ⟨w, r, M'⟩ := o
  obtain ⟨rfl, rfl⟩ := Prod.mk.inj (Option.some.inj hf)
  obtain ⟨hSem, hn, hrest, -⟩ := hP9
  simp only at hSem hn hrest
  generalize has : (st.take n).reverse = As at hSem
  have hst := mm_split0 has
  have hlen : As.length = n := by
    have h3 := congrArg List.length has
    simp at h3
    omega
  have hval : ∀ v ∈ As, mm_ok kd N v := fun v hv => h1 v (by
    have : v ∈ (st.take n).reverse := by rw [has]; exact hv
    exact List.mem_of_mem_take (List.mem_reverse.mp this))
  have hM := hS z M As r M' H.size hSem hval
  have hin := mm_in hD hS9 hA
  have hroom : ((((st.drop n).map (mm_v ad)).map fun v => v.category)).sum ≤ 8 := by rw [mm_sum]; exact hrest
  have hstk : st.map (mm_v ad) = (As.map (mm_v ad)).reverse ++ (st.drop n).map (mm_v ad) := by
    conv => lhs; rw [hst]
    simp
  refine mm_run (va_runS (As := As.map (mm_v ad)) (rest := (st.drop n).map (mm_v ad)) ⟨hx, hb, hml, hown, hts⟩ hM (va_cwS n hts (mm_goodA hg hcd hw) rfl hrm.1 hrm.2 hd hR) ⟨mm_blind, fun U hU hW => ⟨rfl, by rw [hU], by rw [hU]; exact hP, va_K.moved hW.alike hK, hD.weaken (fun _ _ _ _ => trivial), mm_nw_warm hW hnw⟩⟩ rfl (by simp [hlen]) hL.1 hstk (lv_room hroom) d ⟨hcl, hsl⟩) hS9 (fun q _ h => hin q h) hin (fun H1 locs1 hP1 hD1 hS1 => ?_)
  have hk := hG (by
    cases r with
    | none => exact fun v hv => h1 v (List.mem_of_mem_drop hv)
    | some r => exact sk_i (fun v hv => h1 v (List.mem_of_mem_drop hv))) h2 H1 locs1 ls hP1 (hD1.weaken (fun _ q _ h => hin q.1 h)) hS1 hL
  cases r with
  | none => exact hk
  | some r => exact hk
set_option maxHeartbeats 1000000 in
theorem ok_callN {idx z n : Nat} {host : String} (hS : mm_Sound GW NW D cl tys ad cA K kd N l T rm S) (hrm : rm.cells = 0 ∧ rm.slots = 0) (hR : rm.frames + 1 ≤ R.frames ∧ 8 + (T.2.2.1 z + 11) + rm.locals ≤ R.locals)
    (hg : ∀ w ∈ GW, goodWord w = true) (hcd : Cond.code (T.1 z) (T.2.1 z) (T.2.2.1 z) (T.2.2.2 z) ∈ GW) (hw : ∀ w ∈ [Cond.static (T.1 z), .initialized (T.1 z).cls], w ∈ GW) (hnw9 : (own, idx, T.1 z, host) ∈ NW)
    (hd : (T.1 z).cls ≠ "java/lang/invoke/MethodHandle" ∧ (T.1 z).cls ≠ "java/lang/invoke/VarHandle" ∧ (parseMethodDescriptor (T.1 z).desc).map (fun d => d.parameters.length) = some n) (d : decode cc pc = .ok (.invokestatic idx, 3)) :
    mm_Ok GW NW D cl tys ad cA K kd N l R own cc nL S pc (mi_call z n none) := by
  intro p e s m args below meth c A cells slots Q X o g g' P hpc hf hP9 hG h1 h2 H locs ls hP hD hS9 hL
  obtain ⟨M, pc', gl, st⟩ := g
  simp only at hpc
  subst hpc
  obtain ⟨⟨hx, hb, hml, hown⟩, hts, hnw, hK, hlay, hA, hlk, hcl, hsl⟩ := X
  simp only at h1 h2 hP hD hL
  obtain ⟨w, r, M'⟩ := o
  obtain ⟨rfl, rfl⟩ := Prod.mk.inj (Option.some.inj hf)
  obtain ⟨hSem, hn, hrest, -⟩ := hP9
  simp only at hSem hn hrest
  generalize has : (st.take n).reverse = As at hSem
  have hst := mm_split0 has
  have hlen : As.length = n := by
    have h3 := congrArg List.length has
    simp at h3
    omega
  have hval : ∀ v ∈ As, mm_ok kd N v := fun v hv => h1 v (by
    have : v ∈ (st.take n).reverse := by rw [has]; exact hv
    exact List.mem_of_mem_take (List.mem_reverse.mp this))
  have hM := hS z M As r M' H.size hSem hval
  have hin := mm_in hD hS9 hA
  have hroom : ((((st.drop n).map (mm_v ad)).map fun v => v.category)).sum ≤ 8 := by rw [mm_sum]; exact hrest
  have hstk : st.map (mm_v ad) = (As.map (mm_v ad)).reverse ++ (st.drop n).map (mm_v ad) := by
    conv => lhs; rw [hst]
    simp
  refine mm_run (va_runSN (As := As.map (mm_v ad)) (rest := (st.drop n).map (mm_v ad)) ⟨hx, hb, hml, hown, hts⟩ hM ⟨va_cnB n hts (mm_good hg hcd) rfl hrm.1 hrm.2 (hnw _ hnw9) (hts _ (hw _ (List.mem_cons_of_mem _ List.mem_cons_self))) hd hR, hts _ (hw _ List.mem_cons_self), trivial⟩ ⟨mm_blind, fun U hU hW => ⟨rfl, by rw [hU], by rw [hU]; exact hP, va_K.moved hW.alike hK, hD.weaken (fun _ _ _ _ => trivial), mm_nw_warm hW hnw⟩⟩ rfl (by simp [hlen]) hL.1 hstk (lv_room hroom) d ⟨hcl, hsl⟩) hS9 (fun q _ h => hin q h) hin (fun H1 locs1 hP1 hD1 hS1 => ?_)
  have hk := hG (by
    cases r with
    | none => exact fun v hv => h1 v (List.mem_of_mem_drop hv)
    | some r => exact sk_i (fun v hv => h1 v (List.mem_of_mem_drop hv))) h2 H1 locs1 ls hP1 (hD1.weaken (fun _ q _ h => hin q.1 h)) hS1 hL
  cases r with
  | none => exact hk
  | some r => exact hk
end MM3
end
section
section MM5
variable {GW : List Cond} {NW : List mm_N} {D : va_G} {cl : List vw_C} {tys : List (ClassId × FieldType)} {ad : Nat → Nat} {cA : Nat → ClassId} {K : Nat → mm_K} {kd : Nat → Nat} {N : Nat}
variable {l : Launch} {R : Room} {own : String} {cc : ByteArray} {nL : Nat} {S : mm_S}
/-- a return of the table is the machine's -/
def mm_RtOk (cc : ByteArray) (ret : Option FieldType) (rt : List (Nat × Nat)) : Prop := ∀ pc k, mm_at rt pc = some k → (k = 0 ∧ ret = none ∧ decode cc pc = .ok (.return_, 1)) ∨ (k = 1 ∧ ret = some .int ∧ decode cc pc = .ok (.ireturn, 1)) ∨ (k = 2 ∧ ret = some .boolean ∧ decode cc pc = .ok (.ireturn, 1))
theorem mm_rt_nil {cc : ByteArray} {ret : Option FieldType} : mm_RtOk cc ret [] := fun pc k h => by simp [mm_at] at h
theorem mm_rt_cons {cc : ByteArray} {ret : Option FieldType} {k n : Nat} {t : List (Nat × Nat)} (h : (n = 0 ∧ ret = none ∧ decode cc k = .ok (.return_, 1)) ∨ (n = 1 ∧ ret = some .int ∧ decode cc k = .ok (.ireturn, 1)) ∨ (n = 2 ∧ ret = some .boolean ∧ decode cc k = .ok (.ireturn, 1))) (ht : mm_RtOk cc ret t) : mm_RtOk cc ret ((k, n) :: t) := fun pc q hq => by
  simp only [mm_at] at hq
  cases hb : Nat.beq k pc with
  | true =>
    rw [hb] at hq
    have e1 : k = pc := Nat.eq_of_beq_eq_true hb
    have e2 : n = q := Option.some.inj hq
    rw [← e1, ← e2]; exact h
  | false => rw [hb] at hq; exact ht pc q hq
theorem mm_rmok {d mx : Nat} (h : mx ≤ 30) : (mm_rm d).frames + 1 ≤ (mm_rm (d + 1)).frames ∧ 8 + (mx + 11) + (mm_rm d).locals ≤ (mm_rm (d + 1)).locals := ⟨Nat.le_refl _, by show 8 + (mx + 11) + 60 * d ≤ 60 * (d + 1); omega⟩
theorem mm_rmR {d : Nat} : 1 ≤ (mm_rm (d + 1)).frames ∧ 30 ≤ (mm_rm (d + 1)).locals := ⟨Nat.le_add_left 1 d, by show 30 ≤ 60 * (d + 1); omega⟩
set_option maxHeartbeats 1000000 in
theorem mm_body {pg : List (Nat × mm_F)} {rt : List (Nat × Nat)} {ret : Option FieldType} (hpg : ∀ pc f, mm_at pg pc = some f → mm_Ok GW NW D cl tys ad cA K kd N l R own cc nL S pc f) (hrt : mm_RtOk cc ret rt)
    {p : Program} {e : Env} {s : State} {m : MethodId} {args : Array Value} {below : List Frame} {meth : Method} {c : Code} {A : Nat → Prop} (X : mm_Cx GW NW D cl tys K kd N R own cc nL p s m args meth c A 0 0) (hr : meth.sig.returnType = ret) :
    ∀ (os : List mm_O) (g g' : mm_C) (P : Prop) (r : Option Int32) (M' : mm_M), mm_path pg S os g = some (g', P) → P → mm_Rt rt g' (r, M') → mm_G D cl ad cA K kd N p l e R s m args below meth c A nL 0 0 (MQ below (mm_Post D cl ad cA K kd N r M' A) args s 0 0 A) g
  | [], g, g', P, r, M', h, hP, hret => by
    obtain ⟨rfl, rfl⟩ := Prod.mk.inj (Option.some.inj h)
    intro h1 h2 H locs ls hP1 hD hS hL
    obtain ⟨M, pc, gl, st⟩ := g
    obtain ⟨⟨hx, hb, hml, hown⟩, hts, hnw, hK, hlay, hA, hlk, hcl, hsl⟩ := X
    simp only at h1 h2 hP1 hD hL
    simp only [mm_Rt] at hret
    cases hk : mm_at rt pc with
    | none => rw [hk] at hret; exact hret.elim
    | some k =>
      rcases hrt pc k hk with ⟨rfl, hr1, d⟩ | ⟨rfl, hr1, d⟩ | ⟨rfl, hr1, d⟩
      · rw [hk] at hret
        obtain ⟨rfl, he⟩ := hret
        obtain ⟨rfl, rfl⟩ := Prod.mk.inj he
        exact W.vret hx hb (hr.trans hr1) (fun t ht hW => ⟨⟨rfl, by rw [ht]; exact hP1, hD⟩, hS.F ht⟩) hS.2.2 d hlk
      · rw [hk] at hret
        obtain ⟨r1, rfl, he⟩ := hret
        obtain ⟨rfl, rfl⟩ := Prod.mk.inj he
        exact W.iret (v := r1) hx hb (hr.trans hr1) (fun t ht hW => ⟨⟨rfl, by rw [ht]; exact hP1, hD⟩, hS.F ht⟩) hS.2.2 d hlk
      · rw [hk] at hret
        obtain ⟨r1, rfl, he, hz⟩ := hret
        obtain ⟨rfl, rfl⟩ := Prod.mk.inj he
        exact W.zret (v := r1) hx hb (hr.trans hr1) (by rcases hz with rfl | rfl <;> rfl) (fun t ht hW => ⟨⟨rfl, by rw [ht]; exact hP1, hD⟩, hS.F ht⟩) hS.2.2 d hlk
  | o :: os, g, g', P, r, M', h, hP, hret => by
    simp only [mm_path] at h
    cases h1 : mm_at pg g.2.1 with
    | none => simp [h1] at h
    | some f =>
      simp only [h1] at h
      cases h2 : f S o g with
      | none => simp [h2] at h
      | some q =>
        obtain ⟨g1, P1⟩ := q
        simp only [h2] at h
        cases h3 : mm_path pg S os g1 with
        | none => simp [h3] at h
        | some q2 =>
          obtain ⟨g2, P2⟩ := q2
          simp only [h3] at h
          obtain ⟨e1, e2⟩ := Prod.mk.inj (Option.some.inj h)
          subst e1
          rw [← e2] at hP
          exact hpg _ _ h1 p e s m args below meth c A 0 0 _ X o g g1 P1 rfl h2 hP.1 (mm_body hpg hrt X hr os g1 g2 P2 r M' h3 hP.2 hret)
set_option maxHeartbeats 1000000 in
theorem mm_met {T : mm_T} {z : Nat} {pg : List (Nat × mm_F)} {rt : List (Nat × Nat)} (hpl : plainName (T.1 z).cls = true) (hlay : mm_lay K kd N)
    (hpg : ∀ pc f, mm_at pg pc = some f → mm_Ok GW NW D cl tys ad cA K kd N l R (T.1 z).cls (T.2.1 z) (T.2.2.1 z) S pc f) (hrt : mm_RtOk (T.2.1 z) (T.2.2.2 z) rt)
    {M : mm_M} {as : List mm_V} {r : Option Int32} {M' : mm_M} {sz : Nat} (hn : as.length ≤ T.2.2.1 z) (hE : mm_Ends pg rt S (M, 0, as.map some ++ List.replicate (T.2.2.1 z - as.length) none, []) (r, M')) (hok : ∀ v ∈ as, mm_ok kd N v) :
    Met l (T.1 z) (mm_ws GW T z) R (mm_Pre NW D cl tys ad cA K kd N M as sz) (mm_Post D cl ad cA K kd N r M' (va_A (mm_W ad cA K kd N M) sz)) 0 0 (va_A (mm_W ad cA K kd N M) sz) := by
  refine Met.ofW (cc := T.2.1 z) (maxL := T.2.2.1 z) (ret := T.2.2.2 z) hpl rfl ?_
  intro p e s m args below meth c s₁ B hml hv
  obtain ⟨rfl, hsz, hP, hK, hD0, hnw⟩ := hv
  have hts := atoms_spec (ws := mm_ws GW T z) B.pre
  have hown : s.vm.findClass (T.1 z).cls = some m.cls := findClass_of_methodNamed B.named
  have hlocks := B.notSynchronized
  subst hsz
  have hD := hD0.self (sz := s.heap.size)
  obtain ⟨ls, hfr, hL⟩ := mm_entry (ad := ad) m as hn
  rw [hfr]
  obtain ⟨os, g', P, h1, h2, h3⟩ := hE
  refine mm_body hpg hrt ⟨⟨B.exec, B.bytes, hml, hown⟩, fun w hw => hts w (List.mem_cons_of_mem _ hw), hnw, hK, hlay, fun q h => Or.inr h, hlocks, Nat.zero_le _, Nat.zero_le _⟩ B.returns os _ g' P r M' h1 h2 h3 (fun v hv => by simp at hv) (fun v hv => ?_) s.heap [] ls hP hD va_S.rf hL
  rcases List.mem_append.mp hv with h | h
  · obtain ⟨w, hw, e⟩ := List.mem_map.mp h
    have : w = v := by simpa using e
    rw [← this]
    exact hok w hw
  · have := List.eq_of_mem_replicate h
    simp at this
/-- what the methods do, calls up to depth d -/
def mm_Sem (mx : Nat → Nat) (pg : Nat → List (Nat × mm_F)) (rt : Nat → List (Nat × Nat)) : Nat → mm_S
  | 0 => fun _ _ _ _ => False
  | d + 1 => fun z M as res => as.length ≤ mx z ∧ mm_Ends (pg z) (rt z) (mm_Sem mx pg rt d) (M, 0, as.map some ++ List.replicate (mx z - as.length) none, []) res
theorem mm_sound {T : mm_T} {pg : Nat → List (Nat × mm_F)} {rt : Nat → List (Nat × Nat)} (hlay : mm_lay K kd N) (hpl : ∀ z, rt z ≠ [] → plainName (T.1 z).cls = true) (hrt : ∀ z, rt z ≠ [] → mm_RtOk (T.2.1 z) (T.2.2.2 z) (rt z))
    (hpg : ∀ (d : Nat) (S : mm_S), mm_Sound GW NW D cl tys ad cA K kd N l T (mm_rm d) S → ∀ z, rt z ≠ [] → ∀ pc f, mm_at (pg z) pc = some f → mm_Ok GW NW D cl tys ad cA K kd N l (mm_rm (d + 1)) (T.1 z).cls (T.2.1 z) (T.2.2.1 z) S pc f) :
    ∀ d, mm_Sound GW NW D cl tys ad cA K kd N l T (mm_rm d) (mm_Sem T.2.2.1 pg rt d)
  | 0 => fun z M as r M' sz h _ => h.elim
  | d + 1 => fun z M as r M' sz h hok => by
    have hz : rt z ≠ [] := by
      intro h0
      obtain ⟨-, os, g', P, -, -, h3⟩ := h
      rw [h0] at h3
      exact h3
    exact mm_met (hpl z hz) hlay (hpg d _ (mm_sound hlay hpl hrt hpg d) z hz) (hrt z hz) h.1 h.2 hok
/-- more depth does no harm -/
theorem mm_Ends_mono {pg : List (Nat × mm_F)} {rt : List (Nat × Nat)} {S S' : mm_S} (hf : ∀ pc f, mm_at pg pc = some f → ∀ o g g' P, f S o g = some (g', P) → P → ∃ P', f S' o g = some (g', P') ∧ P') : ∀ {g : mm_C} {res : mm_R}, mm_Ends pg rt S g res → mm_Ends pg rt S' g res := by
  intro g res h
  obtain ⟨os, g', P, h1, h2, h3⟩ := h
  have key : ∀ (os : List mm_O) (g g' : mm_C) (P : Prop), mm_path pg S os g = some (g', P) → P → ∃ P', mm_path pg S' os g = some (g', P') ∧ P' := by
    intro os
    induction os with
    | nil => exact fun g g' P h hP => ⟨P, h, hP⟩
    | cons o os ih =>
      intro g g' P h hP
      simp only [mm_path] at h
      cases h1 : mm_at pg g.2.1 with
      | none => simp [h1] at h
      | some f =>
        simp only [h1] at h
        cases h2 : f S o g with
        | none => simp [h2] at h
        | some q =>
          obtain ⟨g1, P1⟩ := q
          simp only [h2] at h
          cases h3 : mm_path pg S os g1 with
          | none => simp [h3] at h
          | some q2 =>
            obtain ⟨g2, P2⟩ := q2
            simp only [h3] at h
            obtain ⟨e1, e2⟩ := Prod.mk.inj (Option.some.inj h)
            subst e1
            rw [← e2] at hP
            obtain ⟨P3, h4, h5⟩ := hf _ _ h1 o g g1 P1 h2 hP.1
            obtain ⟨P4, h6, h7⟩ := ih g1 g2 P2 h3 hP.2
            exact ⟨P3 ∧ P4, by simp only [mm_path, h1, h4, h6], h5, h7⟩
  obtain ⟨P', h4, h5⟩ := key os g g' P h1 h2
  exact ⟨os, g', P', h4, h5, h3⟩
end MM5
end
