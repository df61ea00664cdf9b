section
-- ===== PART A: goes FIRST, ahead of the names: the tables' words, and 'selects' of the private methods out of them =====
/-- a private method of a class that the tables say can be made, by its rows of tables_1 -/
def lw_okq (q : MethodName × Nat) : Prop := (q.1.cls ≠ "java/lang/invoke/MethodHandle" ∧ q.1.cls ≠ "java/lang/invoke/VarHandle") ∧ Cond.instantiable q.1.cls q.2 ∈ tables_1 ∧ Cond.privateMethod q.1 ∈ tables_1 ∧ Cond.instanceMethod q.1 ∈ tables_1
theorem lw_p0 : lw_okq (⟨"java/lang/Throwable", "fillInStackTrace", "(I)Ljava/lang/Throwable;"⟩, 6) := ⟨⟨by decide +kernel, by decide +kernel⟩, List.mem_of_getElem? (i := 274) (by decide +kernel), List.mem_of_getElem? (i := 272) (by decide +kernel), List.mem_of_getElem? (i := 273) (by decide +kernel)⟩
theorem lw_p1 : lw_okq (⟨"CraneTurns", "needCrane", "(I)V"⟩, 2) := ⟨⟨by decide +kernel, by decide +kernel⟩, List.mem_of_getElem? (i := 17) (by decide +kernel), List.mem_of_getElem? (i := 340) (by decide +kernel), List.mem_of_getElem? (i := 341) (by decide +kernel)⟩
theorem lw_p2 : lw_okq (⟨"CraneTurns$Yard", "floorOf", "(I)I"⟩, 11) := ⟨⟨by decide +kernel, by decide +kernel⟩, List.mem_of_getElem? (i := 25) (by decide +kernel), List.mem_of_getElem? (i := 366) (by decide +kernel), List.mem_of_getElem? (i := 367) (by decide +kernel)⟩
theorem lw_p3 : lw_okq (⟨"CraneTurns$Yard", "ceilingOf", "(I)I"⟩, 11) := ⟨⟨by decide +kernel, by decide +kernel⟩, List.mem_of_getElem? (i := 25) (by decide +kernel), List.mem_of_getElem? (i := 370) (by decide +kernel), List.mem_of_getElem? (i := 371) (by decide +kernel)⟩
theorem lw_p4 : lw_okq (⟨"CraneTurns", "needTrack", "()V"⟩, 2) := ⟨⟨by decide +kernel, by decide +kernel⟩, List.mem_of_getElem? (i := 17) (by decide +kernel), List.mem_of_getElem? (i := 399) (by decide +kernel), List.mem_of_getElem? (i := 400) (by decide +kernel)⟩
theorem lw_p5 : lw_okq (⟨"CraneTurns", "needJob", "(I)V"⟩, 2) := ⟨⟨by decide +kernel, by decide +kernel⟩, List.mem_of_getElem? (i := 17) (by decide +kernel), List.mem_of_getElem? (i := 417) (by decide +kernel), List.mem_of_getElem? (i := 418) (by decide +kernel)⟩
theorem lw_p6 : lw_okq (⟨"CraneTurns$Yard", "passSecondOf", "(I)I"⟩, 11) := ⟨⟨by decide +kernel, by decide +kernel⟩, List.mem_of_getElem? (i := 25) (by decide +kernel), List.mem_of_getElem? (i := 474) (by decide +kernel), List.mem_of_getElem? (i := 475) (by decide +kernel)⟩
theorem lw_p7 : lw_okq (⟨"CraneTurns$Yard", "takeFirst", "(LCraneTurns$Crane;)V"⟩, 11) := ⟨⟨by decide +kernel, by decide +kernel⟩, List.mem_of_getElem? (i := 25) (by decide +kernel), List.mem_of_getElem? (i := 478) (by decide +kernel), List.mem_of_getElem? (i := 479) (by decide +kernel)⟩
theorem lw_p8 : lw_okq (⟨"CraneTurns$Yard", "handleIfThere", "(LCraneTurns$Crane;)V"⟩, 11) := ⟨⟨by decide +kernel, by decide +kernel⟩, List.mem_of_getElem? (i := 25) (by decide +kernel), List.mem_of_getElem? (i := 482) (by decide +kernel), List.mem_of_getElem? (i := 483) (by decide +kernel)⟩
theorem lw_p9 : lw_okq (⟨"CraneTurns$Yard", "liftOn", "(LCraneTurns$Crane;)V"⟩, 11) := ⟨⟨by decide +kernel, by decide +kernel⟩, List.mem_of_getElem? (i := 25) (by decide +kernel), List.mem_of_getElem? (i := 486) (by decide +kernel), List.mem_of_getElem? (i := 487) (by decide +kernel)⟩
theorem lw_p10 : lw_okq (⟨"CraneTurns$Yard", "setOn", "(LCraneTurns$Crane;)V"⟩, 11) := ⟨⟨by decide +kernel, by decide +kernel⟩, List.mem_of_getElem? (i := 25) (by decide +kernel), List.mem_of_getElem? (i := 490) (by decide +kernel), List.mem_of_getElem? (i := 491) (by decide +kernel)⟩
theorem lw_p11 : lw_okq (⟨"CraneTurns$Yard", "moveToward", "(II)V"⟩, 11) := ⟨⟨by decide +kernel, by decide +kernel⟩, List.mem_of_getElem? (i := 25) (by decide +kernel), List.mem_of_getElem? (i := 494) (by decide +kernel), List.mem_of_getElem? (i := 495) (by decide +kernel)⟩
theorem lw_p12 : lw_okq (⟨"CraneTurns$Yard", "placeOutOfTheWay", "(I)I"⟩, 11) := ⟨⟨by decide +kernel, by decide +kernel⟩, List.mem_of_getElem? (i := 25) (by decide +kernel), List.mem_of_getElem? (i := 504) (by decide +kernel), List.mem_of_getElem? (i := 505) (by decide +kernel)⟩
theorem lw_p13 : lw_okq (⟨"CraneTurns$Planner", "extendWay", "(LCraneTurns$Yard;I)V"⟩, 9) := ⟨⟨by decide +kernel, by decide +kernel⟩, List.mem_of_getElem? (i := 174) (by decide +kernel), List.mem_of_getElem? (i := 546) (by decide +kernel), List.mem_of_getElem? (i := 547) (by decide +kernel)⟩
theorem lw_p14 : lw_okq (⟨"CraneTurns$Planner", "tryWay", "(LCraneTurns$Yard;)V"⟩, 9) := ⟨⟨by decide +kernel, by decide +kernel⟩, List.mem_of_getElem? (i := 174) (by decide +kernel), List.mem_of_getElem? (i := 550) (by decide +kernel), List.mem_of_getElem? (i := 551) (by decide +kernel)⟩
theorem lw_p15 : lw_okq (⟨"CraneTurns$Planner", "keepWay", "(I)V"⟩, 9) := ⟨⟨by decide +kernel, by decide +kernel⟩, List.mem_of_getElem? (i := 174) (by decide +kernel), List.mem_of_getElem? (i := 572) (by decide +kernel), List.mem_of_getElem? (i := 573) (by decide +kernel)⟩
def lw_privs_1 : List (MethodName × Nat) := [(⟨"java/lang/Throwable", "fillInStackTrace", "(I)Ljava/lang/Throwable;"⟩, 6), (⟨"CraneTurns", "needCrane", "(I)V"⟩, 2), (⟨"CraneTurns$Yard", "floorOf", "(I)I"⟩, 11), (⟨"CraneTurns$Yard", "ceilingOf", "(I)I"⟩, 11), (⟨"CraneTurns", "needTrack", "()V"⟩, 2), (⟨"CraneTurns", "needJob", "(I)V"⟩, 2), (⟨"CraneTurns$Yard", "passSecondOf", "(I)I"⟩, 11), (⟨"CraneTurns$Yard", "takeFirst", "(LCraneTurns$Crane;)V"⟩, 11), (⟨"CraneTurns$Yard", "handleIfThere", "(LCraneTurns$Crane;)V"⟩, 11), (⟨"CraneTurns$Yard", "liftOn", "(LCraneTurns$Crane;)V"⟩, 11), (⟨"CraneTurns$Yard", "setOn", "(LCraneTurns$Crane;)V"⟩, 11), (⟨"CraneTurns$Yard", "moveToward", "(II)V"⟩, 11), (⟨"CraneTurns$Yard", "placeOutOfTheWay", "(I)I"⟩, 11), (⟨"CraneTurns$Planner", "extendWay", "(LCraneTurns$Yard;I)V"⟩, 9), (⟨"CraneTurns$Planner", "tryWay", "(LCraneTurns$Yard;)V"⟩, 9), (⟨"CraneTurns$Planner", "keepWay", "(I)V"⟩, 9)]
theorem lw_r1 : ∀ q ∈ lw_privs_1, lw_okq q := List.forall_mem_cons.mpr ⟨lw_p0, List.forall_mem_cons.mpr ⟨lw_p1, List.forall_mem_cons.mpr ⟨lw_p2, List.forall_mem_cons.mpr ⟨lw_p3, List.forall_mem_cons.mpr ⟨lw_p4, List.forall_mem_cons.mpr ⟨lw_p5, List.forall_mem_cons.mpr ⟨lw_p6, List.forall_mem_cons.mpr ⟨lw_p7, List.forall_mem_cons.mpr ⟨lw_p8, List.forall_mem_cons.mpr ⟨lw_p9, List.forall_mem_cons.mpr ⟨lw_p10, List.forall_mem_cons.mpr ⟨lw_p11, List.forall_mem_cons.mpr ⟨lw_p12, List.forall_mem_cons.mpr ⟨lw_p13, List.forall_mem_cons.mpr ⟨lw_p14, List.forall_mem_cons.mpr ⟨lw_p15, fun _ h => absurd h List.not_mem_nil⟩⟩⟩⟩⟩⟩⟩⟩⟩⟩⟩⟩⟩⟩⟩⟩
theorem lw_p16 : lw_okq (⟨"CraneTurns$Planner", "isTriedAlready", "(III)Z"⟩, 9) := ⟨⟨by decide +kernel, by decide +kernel⟩, List.mem_of_getElem? (i := 174) (by decide +kernel), List.mem_of_getElem? (i := 577) (by decide +kernel), List.mem_of_getElem? (i := 578) (by decide +kernel)⟩
theorem lw_p17 : lw_okq (⟨"CraneTurnsModel", "throwing", "(ZZZZ)Z"⟩, 13) := ⟨⟨by decide +kernel, by decide +kernel⟩, List.mem_of_getElem? (i := 594) (by decide +kernel), List.mem_of_getElem? (i := 651) (by decide +kernel), List.mem_of_getElem? (i := 652) (by decide +kernel)⟩
theorem lw_p18 : lw_okq (⟨"CraneTurnsModel", "setCrane", "(III)V"⟩, 13) := ⟨⟨by decide +kernel, by decide +kernel⟩, List.mem_of_getElem? (i := 594) (by decide +kernel), List.mem_of_getElem? (i := 655) (by decide +kernel), List.mem_of_getElem? (i := 656) (by decide +kernel)⟩
theorem lw_p19 : lw_okq (⟨"CraneTurnsModel", "isCrane", "(I)Z"⟩, 13) := ⟨⟨by decide +kernel, by decide +kernel⟩, List.mem_of_getElem? (i := 594) (by decide +kernel), List.mem_of_getElem? (i := 663) (by decide +kernel), List.mem_of_getElem? (i := 664) (by decide +kernel)⟩
theorem lw_p20 : lw_okq (⟨"CraneTurnsModel", "ofCrane", "(II)I"⟩, 13) := ⟨⟨by decide +kernel, by decide +kernel⟩, List.mem_of_getElem? (i := 594) (by decide +kernel), List.mem_of_getElem? (i := 667) (by decide +kernel), List.mem_of_getElem? (i := 668) (by decide +kernel)⟩
theorem lw_p21 : lw_okq (⟨"CraneTurnsModel", "setJob", "(III)V"⟩, 13) := ⟨⟨by decide +kernel, by decide +kernel⟩, List.mem_of_getElem? (i := 594) (by decide +kernel), List.mem_of_getElem? (i := 675) (by decide +kernel), List.mem_of_getElem? (i := 676) (by decide +kernel)⟩
theorem lw_p22 : lw_okq (⟨"CraneTurnsModel", "isJob", "(I)Z"⟩, 13) := ⟨⟨by decide +kernel, by decide +kernel⟩, List.mem_of_getElem? (i := 594) (by decide +kernel), List.mem_of_getElem? (i := 683) (by decide +kernel), List.mem_of_getElem? (i := 684) (by decide +kernel)⟩
theorem lw_p23 : lw_okq (⟨"CraneTurnsModel", "ofJob", "(II)I"⟩, 13) := ⟨⟨by decide +kernel, by decide +kernel⟩, List.mem_of_getElem? (i := 594) (by decide +kernel), List.mem_of_getElem? (i := 687) (by decide +kernel), List.mem_of_getElem? (i := 688) (by decide +kernel)⟩
theorem lw_p24 : lw_okq (⟨"CraneTurnsModel", "reaches", "(II)Z"⟩, 13) := ⟨⟨by decide +kernel, by decide +kernel⟩, List.mem_of_getElem? (i := 594) (by decide +kernel), List.mem_of_getElem? (i := 691) (by decide +kernel), List.mem_of_getElem? (i := 692) (by decide +kernel)⟩
theorem lw_p25 : lw_okq (⟨"CraneTurnsModel", "giveTo", "(II)V"⟩, 13) := ⟨⟨by decide +kernel, by decide +kernel⟩, List.mem_of_getElem? (i := 594) (by decide +kernel), List.mem_of_getElem? (i := 695) (by decide +kernel), List.mem_of_getElem? (i := 696) (by decide +kernel)⟩
theorem lw_p26 : lw_okq (⟨"CraneTurnsModel", "secondOfAll", "()V"⟩, 13) := ⟨⟨by decide +kernel, by decide +kernel⟩, List.mem_of_getElem? (i := 594) (by decide +kernel), List.mem_of_getElem? (i := 712) (by decide +kernel), List.mem_of_getElem? (i := 713) (by decide +kernel)⟩
theorem lw_p27 : lw_okq (⟨"CraneTurnsModel", "second", "(I)V"⟩, 13) := ⟨⟨by decide +kernel, by decide +kernel⟩, List.mem_of_getElem? (i := 594) (by decide +kernel), List.mem_of_getElem? (i := 716) (by decide +kernel), List.mem_of_getElem? (i := 717) (by decide +kernel)⟩
theorem lw_p28 : lw_okq (⟨"CraneTurnsModel", "takesJob", "(I)V"⟩, 13) := ⟨⟨by decide +kernel, by decide +kernel⟩, List.mem_of_getElem? (i := 594) (by decide +kernel), List.mem_of_getElem? (i := 720) (by decide +kernel), List.mem_of_getElem? (i := 721) (by decide +kernel)⟩
theorem lw_p29 : lw_okq (⟨"CraneTurnsModel", "firstOf", "(I)I"⟩, 13) := ⟨⟨by decide +kernel, by decide +kernel⟩, List.mem_of_getElem? (i := 594) (by decide +kernel), List.mem_of_getElem? (i := 724) (by decide +kernel), List.mem_of_getElem? (i := 725) (by decide +kernel)⟩
theorem lw_p30 : lw_okq (⟨"CraneTurnsModel", "begins", "(II)V"⟩, 13) := ⟨⟨by decide +kernel, by decide +kernel⟩, List.mem_of_getElem? (i := 594) (by decide +kernel), List.mem_of_getElem? (i := 728) (by decide +kernel), List.mem_of_getElem? (i := 729) (by decide +kernel)⟩
theorem lw_p31 : lw_okq (⟨"CraneTurnsModel", "givesWay", "(I)V"⟩, 13) := ⟨⟨by decide +kernel, by decide +kernel⟩, List.mem_of_getElem? (i := 594) (by decide +kernel), List.mem_of_getElem? (i := 732) (by decide +kernel), List.mem_of_getElem? (i := 733) (by decide +kernel)⟩
def lw_privs_2 : List (MethodName × Nat) := [(⟨"CraneTurns$Planner", "isTriedAlready", "(III)Z"⟩, 9), (⟨"CraneTurnsModel", "throwing", "(ZZZZ)Z"⟩, 13), (⟨"CraneTurnsModel", "setCrane", "(III)V"⟩, 13), (⟨"CraneTurnsModel", "isCrane", "(I)Z"⟩, 13), (⟨"CraneTurnsModel", "ofCrane", "(II)I"⟩, 13), (⟨"CraneTurnsModel", "setJob", "(III)V"⟩, 13), (⟨"CraneTurnsModel", "isJob", "(I)Z"⟩, 13), (⟨"CraneTurnsModel", "ofJob", "(II)I"⟩, 13), (⟨"CraneTurnsModel", "reaches", "(II)Z"⟩, 13), (⟨"CraneTurnsModel", "giveTo", "(II)V"⟩, 13), (⟨"CraneTurnsModel", "secondOfAll", "()V"⟩, 13), (⟨"CraneTurnsModel", "second", "(I)V"⟩, 13), (⟨"CraneTurnsModel", "takesJob", "(I)V"⟩, 13), (⟨"CraneTurnsModel", "firstOf", "(I)I"⟩, 13), (⟨"CraneTurnsModel", "begins", "(II)V"⟩, 13), (⟨"CraneTurnsModel", "givesWay", "(I)V"⟩, 13)]
theorem lw_r2 : ∀ q ∈ lw_privs_2, lw_okq q := List.forall_mem_cons.mpr ⟨lw_p16, List.forall_mem_cons.mpr ⟨lw_p17, List.forall_mem_cons.mpr ⟨lw_p18, List.forall_mem_cons.mpr ⟨lw_p19, List.forall_mem_cons.mpr ⟨lw_p20, List.forall_mem_cons.mpr ⟨lw_p21, List.forall_mem_cons.mpr ⟨lw_p22, List.forall_mem_cons.mpr ⟨lw_p23, List.forall_mem_cons.mpr ⟨lw_p24, List.forall_mem_cons.mpr ⟨lw_p25, List.forall_mem_cons.mpr ⟨lw_p26, List.forall_mem_cons.mpr ⟨lw_p27, List.forall_mem_cons.mpr ⟨lw_p28, List.forall_mem_cons.mpr ⟨lw_p29, List.forall_mem_cons.mpr ⟨lw_p30, List.forall_mem_cons.mpr ⟨lw_p31, fun _ h => absurd h List.not_mem_nil⟩⟩⟩⟩⟩⟩⟩⟩⟩⟩⟩⟩⟩⟩⟩⟩
theorem lw_p32 : lw_okq (⟨"CraneTurnsModel", "hasGoal", "(I)Z"⟩, 13) := ⟨⟨by decide +kernel, by decide +kernel⟩, List.mem_of_getElem? (i := 594) (by decide +kernel), List.mem_of_getElem? (i := 736) (by decide +kernel), List.mem_of_getElem? (i := 737) (by decide +kernel)⟩
theorem lw_p33 : lw_okq (⟨"CraneTurnsModel", "goalOf", "(I)I"⟩, 13) := ⟨⟨by decide +kernel, by decide +kernel⟩, List.mem_of_getElem? (i := 594) (by decide +kernel), List.mem_of_getElem? (i := 740) (by decide +kernel), List.mem_of_getElem? (i := 741) (by decide +kernel)⟩
theorem lw_p34 : lw_okq (⟨"CraneTurnsModel", "goes", "(II)Z"⟩, 13) := ⟨⟨by decide +kernel, by decide +kernel⟩, List.mem_of_getElem? (i := 594) (by decide +kernel), List.mem_of_getElem? (i := 744) (by decide +kernel), List.mem_of_getElem? (i := 745) (by decide +kernel)⟩
theorem lw_p35 : lw_okq (⟨"CraneTurnsModel", "lessToGo", "(I)V"⟩, 13) := ⟨⟨by decide +kernel, by decide +kernel⟩, List.mem_of_getElem? (i := 594) (by decide +kernel), List.mem_of_getElem? (i := 748) (by decide +kernel), List.mem_of_getElem? (i := 749) (by decide +kernel)⟩
theorem lw_p36 : lw_okq (⟨"CraneTurnsModel", "secondsOf", "(II)I"⟩, 13) := ⟨⟨by decide +kernel, by decide +kernel⟩, List.mem_of_getElem? (i := 594) (by decide +kernel), List.mem_of_getElem? (i := 768) (by decide +kernel), List.mem_of_getElem? (i := 769) (by decide +kernel)⟩
theorem lw_p37 : lw_okq (⟨"CraneTurnsModel", "isAllDone", "()Z"⟩, 13) := ⟨⟨by decide +kernel, by decide +kernel⟩, List.mem_of_getElem? (i := 594) (by decide +kernel), List.mem_of_getElem? (i := 772) (by decide +kernel), List.mem_of_getElem? (i := 773) (by decide +kernel)⟩
theorem lw_p38 : lw_okq (⟨"CraneTurnsModel", "may", "(I)Z"⟩, 13) := ⟨⟨by decide +kernel, by decide +kernel⟩, List.mem_of_getElem? (i := 594) (by decide +kernel), List.mem_of_getElem? (i := 776) (by decide +kernel), List.mem_of_getElem? (i := 777) (by decide +kernel)⟩
theorem lw_p39 : lw_okq (⟨"CraneTurnsModel", "isInWay", "(I)Z"⟩, 13) := ⟨⟨by decide +kernel, by decide +kernel⟩, List.mem_of_getElem? (i := 594) (by decide +kernel), List.mem_of_getElem? (i := 780) (by decide +kernel), List.mem_of_getElem? (i := 781) (by decide +kernel)⟩
def lw_privs_3 : List (MethodName × Nat) := [(⟨"CraneTurnsModel", "hasGoal", "(I)Z"⟩, 13), (⟨"CraneTurnsModel", "goalOf", "(I)I"⟩, 13), (⟨"CraneTurnsModel", "goes", "(II)Z"⟩, 13), (⟨"CraneTurnsModel", "lessToGo", "(I)V"⟩, 13), (⟨"CraneTurnsModel", "secondsOf", "(II)I"⟩, 13), (⟨"CraneTurnsModel", "isAllDone", "()Z"⟩, 13), (⟨"CraneTurnsModel", "may", "(I)Z"⟩, 13), (⟨"CraneTurnsModel", "isInWay", "(I)Z"⟩, 13)]
theorem lw_r3 : ∀ q ∈ lw_privs_3, lw_okq q := List.forall_mem_cons.mpr ⟨lw_p32, List.forall_mem_cons.mpr ⟨lw_p33, List.forall_mem_cons.mpr ⟨lw_p34, List.forall_mem_cons.mpr ⟨lw_p35, List.forall_mem_cons.mpr ⟨lw_p36, List.forall_mem_cons.mpr ⟨lw_p37, List.forall_mem_cons.mpr ⟨lw_p38, List.forall_mem_cons.mpr ⟨lw_p39, fun _ h => absurd h List.not_mem_nil⟩⟩⟩⟩⟩⟩⟩⟩
def lw_privs : List (MethodName × Nat) := lw_privs_1 ++ (lw_privs_2 ++ (lw_privs_3))
def lw_tbl : List Cond := k2_sels lw_privs ++ tables_1
theorem lw_privs_ok : ∀ q ∈ lw_privs, lw_okq q := by
  show ∀ q ∈ lw_privs_1 ++ (lw_privs_2 ++ (lw_privs_3)), lw_okq q
  exact List.forall_mem_append.mpr ⟨lw_r1, List.forall_mem_append.mpr ⟨lw_r2, lw_r3⟩⟩
-- ===== end of PART A; then your names; then what follows =====
end
section
/-! MINI MACHINE: a memory of ints by (object, place); references are (kind, object); a method's meaning is a relation Sem -/
abbrev mm_V : Type := Int32 ⊕ (Nat × Nat)
abbrev mm_M : Type := Nat → Nat → Int32
abbrev mm_R : Type := Option Int32 × mm_M
/-- what a method does: its number, the memory, the arguments, the answer with the memory behind it -/
abbrev mm_S : Type := Nat → mm_M → List mm_V → mm_R → Prop
/-- memory, pc, locals, stack -/
abbrev mm_C : Type := mm_M × Nat × List (Option mm_V) × List mm_V
/-- what a path is told: which way at a branch; what a call gave -/
abbrev mm_O : Type := Nat × mm_R
abbrev mm_F : Type := mm_S → mm_O → mm_C → Option (mm_C × Prop)
def mm_up (M : mm_M) (i k : Nat) (v : Int32) : mm_M := fun j q => if j = i ∧ q = k then v else M j q
theorem mm_up_at (M : mm_M) (i k : Nat) (v : Int32) : mm_up M i k v i k = v := by simp [mm_up]
theorem mm_up_i (M : mm_M) {i j : Nat} (k : Nat) (v : Int32) (h : j ≠ i) : mm_up M i k v j = M j := by
  funext q; simp [mm_up, h]
theorem mm_up_k (M : mm_M) (i : Nat) {k q : Nat} (v : Int32) (h : q ≠ k) : mm_up M i k v i q = M i q := by simp [mm_up, h]
theorem mm_up_row (M : mm_M) (i k : Nat) (v : Int32) : mm_up M i k v i = upd (M i) k v := by
  funext q; simp [mm_up, upd]
/-- a kind: an object's fields (none: an int; some (kind, off): the object that many further on); an array of numbers (type, length); an array of objects (type, length, kind, off: its j-th is the object off + 32 j further on) -/
abbrev mm_K : Type := List (Option (Nat × Nat)) ⊕ ((Nat × Nat) ⊕ (Nat × Nat × Nat × Nat))
def mm_fs (ad : Nat → Nat) (i : Nat) (r : Nat → Int32) : Nat → List (Option (Nat × Nat)) → List Value
  | _, [] => []
  | k, none :: t => .int (r k) :: mm_fs ad i r (k + 1) t
  | k, some (_, off) :: t => .ref (ad (i + off)) :: mm_fs ad i r (k + 1) t
def mm_E (ad : Nat → Nat) (cA : Nat → ClassId) (K : Nat → mm_K) (kd i : Nat) (r : Nat → Int32) : va_E := match K kd with
  | .inl F => .inr (kd, mm_fs ad i r 0 F)
  | .inr (.inl (t, n)) => .inl (cA t, n, .inl r)
  | .inr (.inr (t, n, _, off)) => .inl (cA t, n, .inr (.inr (.inr (.inr (fun j => some (ad (i + off + 32 * j)))))))
def mm_W (ad : Nat → Nat) (cA : Nat → ClassId) (K : Nat → mm_K) (kd : Nat → Nat) (N : List Nat) (M : mm_M) : va_W := N.map (fun i => (ad i, mm_E ad cA K (kd i) i (M i)))
theorem mm_fs_int {ad : Nat → Nat} {i : Nat} {r : Nat → Int32} : ∀ (F : List (Option (Nat × Nat))) (k j : Nat), F[j]? = some none → (mm_fs ad i r k F)[j]? = some (.int (r (k + j)))
  | [], k, j, h => by simp at h
  | none :: t, k, 0, h => rfl
  | some (_, _) :: t, k, 0, h => by simp at h
  | none :: t, k, j + 1, h => by
    have := mm_fs_int (ad := ad) (i := i) (r := r) t (k + 1) j (by simpa using h)
    rw [show k + (j + 1) = k + 1 + j by omega]
    simpa [mm_fs] using this
  | some (_, _) :: t, k, j + 1, h => by
    have := mm_fs_int (ad := ad) (i := i) (r := r) t (k + 1) j (by simpa using h)
    rw [show k + (j + 1) = k + 1 + j by omega]
    simpa [mm_fs] using this
theorem mm_fs_ref {ad : Nat → Nat} {i : Nat} {r : Nat → Int32} {ck off : Nat} : ∀ (F : List (Option (Nat × Nat))) (k j : Nat), F[j]? = some (some (ck, off)) → (mm_fs ad i r k F)[j]? = some (.ref (ad (i + off)))
  | [], k, j, h => by simp at h
  | none :: t, k, 0, h => by simp at h
  | some (a, b) :: t, k, 0, h => by
    simp at h
    simp [mm_fs, h.2]
  | none :: t, k, j + 1, h => by
    have := mm_fs_ref (ad := ad) (i := i) (r := r) t (k + 1) j (by simpa using h)
    simpa [mm_fs] using this
  | some (_, _) :: t, k, j + 1, h => by
    have := mm_fs_ref (ad := ad) (i := i) (r := r) t (k + 1) j (by simpa using h)
    simpa [mm_fs] using this
theorem mm_fs_keep {ad : Nat → Nat} {i : Nat} {r r' : Nat → Int32} : ∀ (F : List (Option (Nat × Nat))) (k : Nat), (∀ j, k ≤ j → r' j = r j) → mm_fs ad i r' k F = mm_fs ad i r k F
  | [], k, h => rfl
  | none :: t, k, h => by
    simp only [mm_fs]
    rw [h k (Nat.le_refl k), mm_fs_keep t (k + 1) (fun j hj => h j (by omega))]
  | some (_, _) :: t, k, h => by
    simp only [mm_fs]
    rw [mm_fs_keep t (k + 1) (fun j hj => h j (by omega))]
theorem mm_fs_set {ad : Nat → Nat} {i : Nat} {r : Nat → Int32} {v : Int32} : ∀ (F : List (Option (Nat × Nat))) (k j : Nat), F[j]? = some none → (mm_fs ad i r k F).set j (.int v) = mm_fs ad i (upd r (k + j) v) k F
  | [], k, j, h => by simp at h
  | none :: t, k, 0, h => by
    simp only [mm_fs, List.set_cons_zero, Nat.add_zero]
    rw [mm_fs_keep (r := r) (r' := upd r k v) t (k + 1) (fun j hj => by simp [upd]; omega)]
    simp [upd]
  | some (_, _) :: t, k, 0, h => by simp at h
  | none :: t, k, j + 1, h => by
    have := mm_fs_set (ad := ad) (i := i) (r := r) (v := v) t (k + 1) j (by simpa using h)
    simp only [mm_fs, List.set_cons_succ]
    rw [this, show k + 1 + j = k + (j + 1) by omega]
    congr 2
    simp [upd]
  | some (_, _) :: t, k, j + 1, h => by
    have := mm_fs_set (ad := ad) (i := i) (r := r) (v := v) t (k + 1) j (by simpa using h)
    simp only [mm_fs, List.set_cons_succ]
    rw [this, show k + 1 + j = k + (j + 1) by omega]
theorem mm_fs_len {ad : Nat → Nat} {i : Nat} {r : Nat → Int32} : ∀ (F : List (Option (Nat × Nat))) (k : Nat), (mm_fs ad i r k F).length = F.length
  | [], k => rfl
  | none :: t, k => by simp [mm_fs, mm_fs_len t (k + 1)]
  | some (_, _) :: t, k => by simp [mm_fs, mm_fs_len t (k + 1)]
theorem mm_W_get {ad : Nat → Nat} {cA : Nat → ClassId} {K : Nat → mm_K} {kd : Nat → Nat} {N : List Nat} {M : mm_M} {i : Nat} (h : i ∈ N) : ∃ q : Nat, N[q]? = some i ∧ (mm_W ad cA K kd N M)[q]? = some (ad i, mm_E ad cA K (kd i) i (M i)) := by
  obtain ⟨q, hq⟩ := List.getElem?_of_mem h
  exact ⟨q, hq, by simp [mm_W, hq]⟩
theorem mm_W_set {ad : Nat → Nat} {cA : Nat → ClassId} {K : Nat → mm_K} {kd : Nat → Nat} {N : List Nat} {M M' : mm_M} {i q : Nat} {e : va_E} (hN : N.Nodup) (hq : N[q]? = some i) (h : mm_E ad cA K (kd i) i (M' i) = e) (hj : ∀ j, j ≠ i → M' j = M j) : (mm_W ad cA K kd N M).set q (ad i, e) = mm_W ad cA K kd N M' := by
  have hlt := (List.getElem?_eq_some_iff.mp hq).1
  apply List.ext_getElem?
  intro j
  by_cases hij : q = j
  · subst hij
    rw [List.getElem?_set_self (by simp [mm_W, hlt])]
    simp [mm_W, hq, h]
  · rw [List.getElem?_set_ne hij]
    simp only [mm_W, List.getElem?_map]
    cases hk : N[j]? with
    | none => rfl
    | some k =>
      have hne : k ≠ i := by
        intro e1
        subst e1
        exact hij ((List.getElem?_inj hlt hN).mp (hq.trans hk.symm))
      simp [hj k hne]
def mm_v (ad : Nat → Nat) (v : mm_V) : Value := match v with
  | .inl x => .int x
  | .inr q => .ref (ad q.2)
theorem mm_v_cat (ad : Nat → Nat) (v : mm_V) : (mm_v ad v).category = 1 := by
  cases v <;> rfl
/-- a value that the memory has -/
def mm_ok (kd : Nat → Nat) (N : List Nat) (v : mm_V) : Prop := match v with
  | .inl _ => True
  | .inr q => q.2 ∈ N ∧ kd q.2 = q.1
/-- the layout leads from objects to objects of the named kinds -/
def mm_lay (K : Nat → mm_K) (kd : Nat → Nat) (N : List Nat) : Prop := N.Nodup ∧ ∀ i, i ∈ N → match K (kd i) with
  | .inl F => ∀ (k ck off : Nat), F[k]? = some (some (ck, off)) → i + off ∈ N ∧ kd (i + off) = ck
  | .inr (.inl _) => True
  | .inr (.inr (_, n, ck, off)) => ∀ j, j < n → i + off + 32 * j ∈ N ∧ kd (i + off + 32 * j) = ck
/-- the locals -/
def mm_L (ad : Nat → Nat) (ls : Array Slot) (nL : Nat) (g : List (Option mm_V)) : Prop := ls.size = nL ∧ g.length = nL ∧ lv_wf ls ∧ ∀ (i : Nat) (v : mm_V), g[i]? = some (some v) → ls[i]? = some (.val (mm_v ad v))
section MM1
variable {ad : Nat → Nat}
def mm_lv (ad : Nat → Nat) (g : List (Option mm_V)) : List (Nat × Value) := (List.range g.length).filterMap (fun j => (g[j]?.join).map (fun w => (j, mm_v ad w)))
theorem mm_lv_mem {g : List (Option mm_V)} {q : Nat × Value} : q ∈ mm_lv ad g ↔ ∃ w, g[q.1]? = some (some w) ∧ q.2 = mm_v ad w := by
  constructor
  · intro h
    obtain ⟨j, hj, e⟩ := List.mem_filterMap.mp h
    cases hg : g[j]? with
    | none => simp [hg] at e
    | some o =>
      cases o with
      | none => simp [hg] at e
      | some w =>
        simp [hg] at e
        subst e
        exact ⟨w, hg, rfl⟩
  · rintro ⟨w, hg, e⟩
    refine List.mem_filterMap.mpr ⟨q.1, List.mem_range.mpr (List.getElem?_eq_some_iff.mp hg).1, ?_⟩
    simp [hg, ← e]
theorem mm_L_lv {ls : Array Slot} {nL : Nat} {g : List (Option mm_V)} (h : mm_L ad ls nL g) : lv_has ls nL (mm_lv ad g) :=
  ⟨h.1, h.2.2.1, fun q hq => by
    obtain ⟨w, h1, h2⟩ := mm_lv_mem.mp hq
    rw [h2]
    exact h.2.2.2 q.1 w h1⟩
theorem mm_L_of {ls : Array Slot} {nL i : Nat} {g : List (Option mm_V)} {v : mm_V} (hg : g.length = nL) (hi : i < nL) (h : lv_has ls nL ((i, mm_v ad v) :: (mm_lv ad g).filter (fun q => !(q.1 == i) && !(q.1 + 1 == i && q.2.category == 2)))) : mm_L ad ls nL (g.set i (some v)) := by
  refine ⟨h.1, by simp [hg], h.2.1, fun j w hj => ?_⟩
  by_cases e : j = i
  · subst e
    rw [List.getElem?_set_self (by omega)] at hj
    have e2 : v = w := by simpa using hj
    subst e2
    exact h.2.2 (j, mm_v ad v) List.mem_cons_self
  · rw [List.getElem?_set_ne (Ne.symm e)] at hj
    exact h.2.2 (j, mm_v ad w) (List.mem_cons_of_mem _ (List.mem_filter.mpr ⟨mm_lv_mem.mpr ⟨w, hj, rfl⟩, by simp [e, mm_v_cat]⟩))
theorem mm_L_at {ls : Array Slot} {nL i : Nat} {g : List (Option mm_V)} {v : mm_V} (h : mm_L ad ls nL g) (hi : g[i]? = some (some v)) : ls[i]? = some (.val (mm_v ad v)) := h.2.2.2 i v hi
theorem mm_sum : ∀ (t : List mm_V), ((t.map (mm_v ad)).map fun v => v.category).sum = t.length
  | [] => rfl
  | a :: t => by
    have := mm_sum t
    simp only [List.map_cons, List.sum_cons, List.length_cons, mm_v_cat]
    omega
theorem mm_args : ∀ (as : List mm_V) (k j : Nat) (v : mm_V), as[j]? = some v → (k + j, mm_v ad v) ∈ lv_args k (as.map (mm_v ad))
  | [], k, j, v, h => by simp at h
  | a :: t, k, 0, v, h => by
    simp at h
    subst h
    exact List.mem_cons_self
  | a :: t, k, j + 1, v, h => by
    have := mm_args t (k + 1) j v (by simpa using h)
    rw [show k + (j + 1) = k + 1 + j by omega]
    refine List.mem_cons_of_mem _ ?_
    simpa [mm_v_cat] using this
theorem mm_sl : ∀ (as : List mm_V), (lg_sl (as.map (mm_v ad))).length = as.length
  | [] => rfl
  | a :: t => by
    have := mm_sl t
    simp only [lg_sl, List.map_cons, List.flatMap_cons, mm_v_cat, List.length_append, List.length_cons] at this ⊢
    simp at this ⊢
    omega
theorem mm_entry (m : MethodId) (as : List mm_V) {n : Nat} (h : as.length ≤ n) : ∃ ls, entryFrame m (as.map (mm_v ad)).toArray n = F0 m 0 ls [] ∧ mm_L ad ls n (as.map some ++ List.replicate (n - as.length) none) := by
  refine ⟨_, lg_entry_eq m (as.map (mm_v ad)) n, ?_⟩
  have hl := lv_entry (as.map (mm_v ad)) (n := n) (by rw [mm_sl]; exact h)
  refine ⟨hl.1, by simp; omega, hl.2.1, fun i v hi => ?_⟩
  have hlt : i < as.length := by
    rcases Nat.lt_or_ge i as.length with q | q
    · exact q
    · rw [List.getElem?_append_right (by simpa using q)] at hi
      have := List.mem_of_getElem? hi
      simp at this
  rw [List.getElem?_append_left (by simpa using hlt)] at hi
  have h2 : as[i]? = some v := by
    rw [List.getElem?_map] at hi
    cases ha : as[i]? with
    | none => rw [ha] at hi; simp at hi
    | some w => rw [ha] at hi; simp at hi; rw [hi]
  have := mm_args (ad := ad) as 0 i v h2
  rw [Nat.zero_add] at this
  exact hl.2.2 _ this
end MM1
/-! one instruction: what it does to (memory, pc, locals, stack); the Prop is what must hold for it -/
def mi_push (v : Int32) (len : Nat) : mm_F := fun _ _ g => some ((g.1, g.2.1 + len, g.2.2.1, .inl v :: g.2.2.2), True)
def mi_iload (i len : Nat) : mm_F := fun _ _ g => match g.2.2.1[i]? with
  | some (some (.inl x)) => some ((g.1, g.2.1 + len, g.2.2.1, .inl x :: g.2.2.2), True)
  | _ => none
def mi_aload (i len : Nat) : mm_F := fun _ _ g => match g.2.2.1[i]? with
  | some (some (.inr x)) => some ((g.1, g.2.1 + len, g.2.2.1, .inr x :: g.2.2.2), True)
  | _ => none
def mi_istore (i len : Nat) : mm_F := fun _ _ g => match g.2.2.2 with
  | .inl x :: t => some ((g.1, g.2.1 + len, g.2.2.1.set i (some (.inl x)), t), i < g.2.2.1.length)
  | _ => none
def mi_astore (i len : Nat) : mm_F := fun _ _ g => match g.2.2.2 with
  | .inr x :: t => some ((g.1, g.2.1 + len, g.2.2.1.set i (some (.inr x)), t), i < g.2.2.1.length)
  | _ => none
def mi_iinc (i : Nat) (n : Int32) : mm_F := fun _ _ g => match g.2.2.1[i]? with
  | some (some (.inl x)) => some ((g.1, g.2.1 + 3, g.2.2.1.set i (some (.inl (x + n))), g.2.2.2), True)
  | _ => none
def mi_bin (op : Int32 → Int32 → Int32) (len : Nat) : mm_F := fun _ _ g => match g.2.2.2 with
  | .inl y :: .inl x :: t => some ((g.1, g.2.1 + len, g.2.2.1, .inl (op x y) :: t), True)
  | _ => none
def mi_mm (op : Int32 → Int32 → Int32) : mm_F := fun _ _ g => match g.2.2.2 with
  | .inl y :: .inl x :: t => some ((g.1, g.2.1 + 3, g.2.2.1, .inl (op x y) :: t), t.length ≤ 8)
  | _ => none
def mi_div : mm_F := fun _ _ g => match g.2.2.2 with
  | .inl y :: .inl x :: t => some ((g.1, g.2.1 + 1, g.2.2.1, .inl (x / y) :: t), ¬ y = 0)
  | _ => none
def mi_rem : mm_F := fun _ _ g => match g.2.2.2 with
  | .inl y :: .inl x :: t => some ((g.1, g.2.1 + 1, g.2.2.1, .inl (x - x / y * y) :: t), ¬ y = 0)
  | _ => none
def mi_dup : mm_F := fun _ _ g => match g.2.2.2 with
  | v :: t => some ((g.1, g.2.1 + 1, g.2.2.1, v :: v :: t), True)
  | _ => none
def mi_dup2 : mm_F := fun _ _ g => match g.2.2.2 with
  | a :: b :: t => some ((g.1, g.2.1 + 1, g.2.2.1, a :: b :: a :: b :: t), True)
  | _ => none
def mi_dupx1 : mm_F := fun _ _ g => match g.2.2.2 with
  | a :: b :: t => some ((g.1, g.2.1 + 1, g.2.2.1, a :: b :: a :: t), True)
  | _ => none
def mi_pop : mm_F := fun _ _ g => match g.2.2.2 with
  | _ :: t => some ((g.1, g.2.1 + 1, g.2.2.1, t), True)
  | _ => none
def mi_goto (tgt : Nat) : mm_F := fun _ _ g => some ((g.1, tgt, g.2.2.1, g.2.2.2), True)
def mi_if (cnd : Int32 → Prop) (tgt : Nat) : mm_F := fun _ o g => match o.1, g.2.2.2 with
  | 0, .inl x :: t => some ((g.1, g.2.1 + 3, g.2.2.1, t), ¬ cnd x)
  | _ + 1, .inl x :: t => some ((g.1, tgt, g.2.2.1, t), cnd x)
  | _, _ => none
def mi_cmp (cnd : Int32 → Int32 → Prop) (tgt : Nat) : mm_F := fun _ o g => match o.1, g.2.2.2 with
  | 0, .inl y :: .inl x :: t => some ((g.1, g.2.1 + 3, g.2.2.1, t), ¬ cnd x y)
  | _ + 1, .inl y :: .inl x :: t => some ((g.1, tgt, g.2.2.1, t), cnd x y)
  | _, _ => none
def mi_getf (ci k : Nat) : mm_F := fun _ _ g => match g.2.2.2 with
  | .inr (c, i) :: t => if c = ci then some ((g.1, g.2.1 + 3, g.2.2.1, .inl (g.1 i k) :: t), True) else none
  | _ => none
def mi_getr (ci ck off : Nat) : mm_F := fun _ _ g => match g.2.2.2 with
  | .inr (c, i) :: t => if c = ci then some ((g.1, g.2.1 + 3, g.2.2.1, .inr (ck, i + off) :: t), True) else none
  | _ => none
def mi_putf (ci k : Nat) : mm_F := fun _ _ g => match g.2.2.2 with
  | .inl x :: .inr (c, i) :: t => if c = ci then some ((mm_up g.1 i k x, g.2.1 + 3, g.2.2.1, t), True) else none
  | _ => none
def mi_putz (ci k : Nat) : mm_F := fun _ _ g => match g.2.2.2 with
  | .inl x :: .inr (c, i) :: t => if c = ci then some ((mm_up g.1 i k x, g.2.1 + 3, g.2.2.1, t), x = 0 ∨ x = 1) else none
  | _ => none
/-- arrays: the path tells the place j -/
def mi_ald (ck n : Nat) : mm_F := fun _ o g => match g.2.2.2 with
  | .inl x :: .inr (c, i) :: t => if c = ck then some ((g.1, g.2.1 + 1, g.2.2.1, .inl (g.1 i o.1) :: t), x = nI o.1 ∧ o.1 < n) else none
  | _ => none
def mi_ast (ck n : Nat) : mm_F := fun _ o g => match g.2.2.2 with
  | .inl v :: .inl x :: .inr (c, i) :: t => if c = ck then some ((mm_up g.1 i o.1 v, g.2.1 + 1, g.2.2.1, t), x = nI o.1 ∧ o.1 < n) else none
  | _ => none
def mi_zst (ck n : Nat) : mm_F := fun _ o g => match g.2.2.2 with
  | .inl v :: .inl x :: .inr (c, i) :: t => if c = ck then some ((mm_up g.1 i o.1 v, g.2.1 + 1, g.2.2.1, t), (x = nI o.1 ∧ o.1 < n) ∧ (v = 0 ∨ v = 1)) else none
  | _ => none
def mi_aald (ck n ek off : Nat) : mm_F := fun _ o g => match g.2.2.2 with
  | .inl x :: .inr (c, i) :: t => if c = ck then some ((g.1, g.2.1 + 1, g.2.2.1, .inr (ek, i + off + 32 * o.1) :: t), x = nI o.1 ∧ o.1 < n) else none
  | _ => none
def mi_alen (ck n : Nat) : mm_F := fun _ _ g => match g.2.2.2 with
  | .inr (c, i) :: t => if c = ck then some ((g.1, g.2.1 + 1, g.2.2.1, .inl (nI n) :: t), True) else none
  | _ => none
/-- a copy of the first n places of an array over another's -/
def mm_cp (M : mm_M) (i0 i1 n : Nat) : mm_M := fun j q => if j = i1 ∧ q < n then M i0 q else M j q
theorem mm_cp_i (M : mm_M) (i0 : Nat) {i1 j : Nat} (n : Nat) (h : j ≠ i1) : mm_cp M i0 i1 n j = M j := by
  funext q; simp [mm_cp, h]
theorem mm_cp_row (M : mm_M) (i0 i1 n : Nat) : mm_cp M i0 i1 n i1 = va_cpy (M i0) (M i1) 0 0 n := by
  funext q; simp [mm_cp, va_cpy]
def mi_copy (ck n9 : Nat) : mm_F := fun _ o g => match g.2.2.2 with
  | .inl n :: .inl dp :: .inr (c1, i1) :: .inl sp :: .inr (c0, i0) :: t => if c0 = ck ∧ c1 = ck then some ((mm_cp g.1 i0 i1 o.1, g.2.1 + 3, g.2.2.1, t), sp = 0 ∧ dp = 0 ∧ n = nI o.1 ∧ o.1 ≤ n9 ∧ t.length ≤ 8) else none
  | _ => none
def mi_tsw (lo hi : Int) (tgts : List Nat) (dflt : Nat) : mm_F := fun _ o g => match o.1, g.2.2.2 with
  | 0, .inl x :: t => some ((g.1, dflt, g.2.2.1, t), x.toInt < lo ∨ hi < x.toInt)
  | j + 1, .inl x :: t => match tgts[j]? with
    | some tg => some ((g.1, tg, g.2.2.1, t), x.toInt = lo + j)
    | none => none
  | _, _ => none
/-- a call of method z with n words off the stack; rc: the receiver's kind -/
def mi_call (z n : Nat) (rc : Option Nat) : mm_F := fun S o g => some ((o.2.2, g.2.1 + 3, g.2.2.1, (match o.2.1 with
  | some r => .inl r :: g.2.2.2.drop n
  | none => g.2.2.2.drop n)), S z g.1 (g.2.2.2.take n).reverse o.2 ∧ n ≤ g.2.2.2.length ∧ (g.2.2.2.drop n).length ≤ 8 ∧ (match rc with
  | some ci => ∃ i, (g.2.2.2.take n).reverse.head? = some (.inr (ci, i))
  | none => True))
def mm_at {α : Type} : List (Nat × α) → Nat → Option α
  | [], _ => none
  | (k, f) :: t, pc => cond (Nat.beq k pc) (some f) (mm_at t pc)
def mm_path (pg : List (Nat × mm_F)) (S : mm_S) : List mm_O → mm_C → Option (mm_C × Prop)
  | [], g => some (g, True)
  | o :: os, g => match mm_at pg g.2.1 with
    | none => none
    | some f => match f S o g with
      | none => none
      | some (g', P) => match mm_path pg S os g' with
        | none => none
        | some (g'', P') => some (g'', P ∧ P')
/-- at a return: rt tells the returns' places, and whether nothing (0), an int (1) or a boolean (2) is answered -/
def mm_Rt (rt : List (Nat × Nat)) (g : mm_C) (res : mm_R) : Prop := match mm_at rt g.2.1 with
  | some 0 => g.2.2.2 = [] ∧ res = (none, g.1)
  | some 1 => ∃ r, g.2.2.2 = [.inl r] ∧ res = (some r, g.1)
  | some 2 => ∃ r, g.2.2.2 = [.inl r] ∧ res = (some r, g.1) ∧ (r = 0 ∨ r = 1)
  | _ => False
def mm_Ends (pg : List (Nat × mm_F)) (rt : List (Nat × Nat)) (S : mm_S) (g : mm_C) (res : mm_R) : Prop := ∃ os g' P, mm_path pg S os g = some (g', P) ∧ P ∧ mm_Rt rt g' res
theorem mm_path_app {pg : List (Nat × mm_F)} {S : mm_S} : ∀ {os os' : List mm_O} {g g' g'' : mm_C} {P P' : Prop}, mm_path pg S os g = some (g', P) → mm_path pg S os' g' = some (g'', P') → P → P' → ∃ P'', mm_path pg S (os ++ os') g = some (g'', P'') ∧ P''
  | [], os', g, g', g'', P, P', h, h', hP, hP' => by
    obtain ⟨rfl, rfl⟩ := Prod.mk.inj (Option.some.inj h)
    exact ⟨P', h', hP'⟩
  | o :: os, os', g, g', g'', P, P', h, h', hP, hP' => by
    simp only [mm_path] at h
    cases h1 : mm_at pg g.2.1 with
    | none => simp [h1] at h
    | some f =>
      simp only [h1] at h
      cases h2 : f S o g with
      | none => simp [h2] at h
      | some q =>
        obtain ⟨g1, P1⟩ := q
        simp only [h2] at h
        cases h3 : mm_path pg S os g1 with
        | none => simp [h3] at h
        | some q2 =>
          obtain ⟨g2, P2⟩ := q2
          simp only [h3] at h
          obtain ⟨e1, e2⟩ := Prod.mk.inj (Option.some.inj h)
          subst e1
          rw [← e2] at hP
          obtain ⟨P3, h4, h5⟩ := mm_path_app h3 h' hP.2 hP'
          refine ⟨P1 ∧ P3, ?_, hP.1, h5⟩
          simp only [List.cons_append, mm_path, h1, h2, h4]
theorem mm_go {pg : List (Nat × mm_F)} {rt : List (Nat × Nat)} {S : mm_S} (os : List mm_O) {g g' : mm_C} {P : Prop} {res : mm_R} (h : mm_path pg S os g = some (g', P)) (hP : P) (k : mm_Ends pg rt S g' res) : mm_Ends pg rt S g res := by
  obtain ⟨os', g'', P', h', hP', hr⟩ := k
  obtain ⟨P'', h1, h2⟩ := mm_path_app h h' hP hP'
  exact ⟨os ++ os', g'', P'', h1, h2, hr⟩
theorem mm_end {pg : List (Nat × mm_F)} {rt : List (Nat × Nat)} {S : mm_S} {g : mm_C} {res : mm_R} (h : mm_Rt rt g res) : mm_Ends pg rt S g res := ⟨[], g, True, rfl, trivial, h⟩
def mm_layB (K : Nat → mm_K) (kd : Nat → Nat) (N : List Nat) : Bool := N.all (fun i => match K (kd i) with
  | .inl F => F.all (fun q => match q with
    | none => true
    | some (ck, off) => decide (i + off ∈ N ∧ kd (i + off) = ck))
  | .inr (.inl _) => true
  | .inr (.inr (_, n, ck, off)) => (List.range n).all (fun j => decide (i + off + 32 * j ∈ N ∧ kd (i + off + 32 * j) = ck)))
theorem mm_layB_ok {K : Nat → mm_K} {kd : Nat → Nat} {N : List Nat} (hN : N.Nodup) (h : mm_layB K kd N = true) : mm_lay K kd N := ⟨hN, fun i hi => by
  have h1 := List.all_eq_true.mp h i hi
  revert h1
  rcases K (kd i) with F | ⟨t, n⟩ | ⟨t, n, ck, off⟩
  · intro h1 k ck off hk
    have h2 := List.all_eq_true.mp h1 _ (List.mem_of_getElem? hk)
    exact of_decide_eq_true h2
  · exact fun _ => trivial
  · intro h1 j hj
    exact of_decide_eq_true (List.all_eq_true.mp h1 j (List.mem_range.mpr hj))⟩
theorem mm_at_nil {P : Nat → mm_F → Prop} : ∀ pc f, mm_at ([] : List (Nat × mm_F)) pc = some f → P pc f := fun pc f h => by simp [mm_at] at h
theorem mm_at_cons {P : Nat → mm_F → Prop} {k : Nat} {f : mm_F} {t : List (Nat × mm_F)} (h : P k f) (ht : ∀ pc f, mm_at t pc = some f → P pc f) : ∀ pc f', mm_at ((k, f) :: t) pc = some f' → P pc f' := fun pc f' hf => by
  simp only [mm_at] at hf
  cases hb : Nat.beq k pc with
  | true =>
    rw [hb] at hf
    have e1 : k = pc := Nat.eq_of_beq_eq_true hb
    have e2 : f = f' := Option.some.inj hf
    rw [← e1, ← e2]; exact h
  | false => rw [hb] at hf; exact ht pc f' hf
theorem mm_2 {GW : List Cond} {a b : Cond} (ha : a ∈ GW) (hb : b ∈ GW) : ∀ w ∈ [a, b], w ∈ GW := fun w h => by
  simp only [List.mem_cons, List.not_mem_nil, or_false] at h
  rcases h with rfl | rfl <;> assumption
theorem mm_3 {GW : List Cond} {a b c : Cond} (ha : a ∈ GW) (hb : b ∈ GW) (hc : c ∈ GW) : ∀ w ∈ [a, b, c], w ∈ GW := fun w h => by
  simp only [List.mem_cons, List.not_mem_nil, or_false] at h
  rcases h with rfl | rfl | rfl <;> assumption
theorem mm_4 {GW : List Cond} {a b c d : Cond} (ha : a ∈ GW) (hb : b ∈ GW) (hc : c ∈ GW) (hd : d ∈ GW) : ∀ w ∈ [a, b, c, d], w ∈ GW := fun w h => by
  simp only [List.mem_cons, List.not_mem_nil, or_false] at h
  rcases h with rfl | rfl | rfl | rfl <;> assumption
/-- from here the method ends, with Q of what it gives -/
def mm_Wp (pg : List (Nat × mm_F)) (rt : List (Nat × Nat)) (S : mm_S) (g : mm_C) (Q : mm_R → Prop) : Prop := ∃ res, mm_Ends pg rt S g res ∧ Q res
theorem wgo {pg : List (Nat × mm_F)} {rt : List (Nat × Nat)} {S : mm_S} {Q : mm_R → Prop} {g g' : mm_C} {P : Prop} (os : List mm_O) (h : mm_path pg S os g = some (g', P)) (hP : P) (k : mm_Wp pg rt S g' Q) : mm_Wp pg rt S g Q := by
  obtain ⟨res, h1, h2⟩ := k
  exact ⟨res, mm_go os h hP h1, h2⟩
theorem wend {pg : List (Nat × mm_F)} {rt : List (Nat × Nat)} {S : mm_S} {Q : mm_R → Prop} {g : mm_C} {res : mm_R} (h : mm_Rt rt g res) (hQ : Q res) : mm_Wp pg rt S g Q := ⟨res, mm_end h, hQ⟩
def oz (n : Nat) : mm_O := (n, none, fun _ _ => 0)
def oc (r : mm_R) : mm_O := (0, r)
end
section
abbrev mm_N : Type := String × Nat × MethodName × String
def mm_nw (NW : List mm_N) (s : State) : Prop := ∀ q ∈ NW, va_Nw (.methodLinkNest q.1 q.2.1 q.2.2.1 q.2.2.2) s
section MM2
variable {GW : List Cond} {NW : List mm_N} {D : va_G} {cl : List vw_C} {tys : List (ClassId × FieldType)} {ad : Nat → Nat} {cA : Nat → ClassId} {K : Nat → mm_K} {kd : Nat → Nat} {N : List Nat}
def mm_Cx (GW : List Cond) (NW : List mm_N) (D : va_G) (cl : List vw_C) (tys : List (ClassId × FieldType)) (K : Nat → mm_K) (kd : Nat → Nat) (N : List Nat) (R : Room) (own : String) (cc : ByteArray) (nL : Nat) (p : Program) (s : State) (m : MethodId) (args : Array Value) (meth : Method) (c : Code) (A : Nat → Prop) (cells slots : Nat) : Prop :=
  (p.tables.exec = Jvm.exec ∧ c.code = cc ∧ c.maxLocals = nL ∧ s.vm.findClass own = some m.cls) ∧ (∀ w ∈ GW, w.before args s = true) ∧ mm_nw NW s ∧ va_K D cl tys s ∧ mm_lay K kd N ∧ (∀ q : Nat, s.heap.size ≤ q → A q) ∧ meth.locks = false ∧ cells ≤ R.cells ∧ slots ≤ R.slots
def mm_G (D : va_G) (cl : List vw_C) (ad : Nat → Nat) (cA : Nat → ClassId) (K : Nat → mm_K) (kd : Nat → Nat) (N : List Nat) (p : Program) (l : Launch) (e : Env) (R : Room) (s : State) (m : MethodId) (args : Array Value) (below : List Frame) (meth : Method) (c : Code) (A : Nat → Prop) (nL cells slots : Nat) (Q : State → Prop) (g : mm_C) : Prop :=
  (∀ v ∈ g.2.2.2, mm_ok kd N v) → (∀ v, some v ∈ g.2.2.1 → mm_ok kd N v) → ∀ (H : Heap) (locs : List Loc) (ls : Array Slot), va_P D cl (mm_W ad cA K kd N g.1) H → va_D A (mm_W ad cA K kd N g.1) → va_S A s.heap H locs → mm_L ad ls nL g.2.2.1 → W p l e R s m args below meth c H locs cells slots Q (F0 m g.2.1 ls (g.2.2.2.map (mm_v ad)))
def mm_Ok (GW : List Cond) (NW : List mm_N) (D : va_G) (cl : List vw_C) (tys : List (ClassId × FieldType)) (ad : Nat → Nat) (cA : Nat → ClassId) (K : Nat → mm_K) (kd : Nat → Nat) (N : List Nat) (l : Launch) (R : Room) (own : String) (cc : ByteArray) (nL : Nat) (S : mm_S) (pc : Nat) (f : mm_F) : Prop :=
  ∀ (p : Program) (e : Env) (s : State) (m : MethodId) (args : Array Value) (below : List Frame) (meth : Method) (c : Code) (A : Nat → Prop) (cells slots : Nat) (Q : State → Prop), mm_Cx GW NW D cl tys K kd N R own cc nL p s m args meth c A cells slots → ∀ (o : mm_O) (g g' : mm_C) (P : Prop), g.2.1 = pc → f S o g = some (g', P) → P → mm_G D cl ad cA K kd N p l e R s m args below meth c A nL cells slots Q g' → mm_G D cl ad cA K kd N p l e R s m args below meth c A nL cells slots Q g
theorem sk_i {x : Int32} {t : List mm_V} (h : ∀ v ∈ t, mm_ok kd N v) : ∀ v ∈ ((.inl x : mm_V) :: t), mm_ok kd N v := fun v hv => by
  rcases List.mem_cons.mp hv with rfl | hv
  · exact trivial
  · exact h v hv
theorem sk_r {a : mm_V} {t : List mm_V} (ha : mm_ok kd N a) (h : ∀ v ∈ t, mm_ok kd N v) : ∀ v ∈ (a :: t), mm_ok kd N v := fun v hv => by
  rcases List.mem_cons.mp hv with rfl | hv
  · exact ha
  · exact h v hv
theorem sk_t {a : mm_V} {t : List mm_V} (h : ∀ v ∈ (a :: t), mm_ok kd N v) : ∀ v ∈ t, mm_ok kd N v := fun v hv => h v (List.mem_cons_of_mem _ hv)
theorem sk_h {a : mm_V} {t : List mm_V} (h : ∀ v ∈ (a :: t), mm_ok kd N v) : mm_ok kd N a := h a List.mem_cons_self
theorem lk_s {i : Nat} {a : mm_V} {gl : List (Option mm_V)} (ha : mm_ok kd N a) (h : ∀ v, some v ∈ gl → mm_ok kd N v) : ∀ v, some v ∈ gl.set i (some a) → mm_ok kd N v := fun v hv => by
  rcases List.mem_or_eq_of_mem_set hv with h1 | h1
  · exact h v h1
  · have e : v = a := by simpa using h1
    rw [e]; exact ha
theorem mm_E_obj {ci i : Nat} {F : List (Option (Nat × Nat))} {r : Nat → Int32} (hF : K ci = .inl F) : mm_E ad cA K ci i r = .inr (ci, mm_fs ad i r 0 F) := by
  simp only [mm_E, hF]
theorem mm_E_prim {ck i t n : Nat} {r : Nat → Int32} (hF : K ck = .inr (.inl (t, n))) : mm_E ad cA K ck i r = .inl (cA t, n, .inl r) := by
  simp only [mm_E, hF]
theorem mm_E_refs {ck i t n ek off : Nat} {r : Nat → Int32} (hF : K ck = .inr (.inr (t, n, ek, off))) : mm_E ad cA K ck i r = .inl (cA t, n, .inr (.inr (.inr (.inr (fun j => some (ad (i + off + 32 * j))))))) := by
  simp only [mm_E, hF]
variable {l : Launch} {R : Room} {own : String} {cc : ByteArray} {nL pc : Nat} {S : mm_S}
set_option maxHeartbeats 1000000 in
theorem ok_iconst {n : Int} {v : Int32} (d : decode cc pc = .ok (.iconst n, 1)) (hv : Int32.ofInt n = v) : mm_Ok GW NW D cl tys ad cA K kd N l R own cc nL S pc (mi_push v 1) := by
  intro p e s m args below meth c A cells slots Q X o g g' P hpc hf hP9 hG h1 h2 H locs ls hP hD hS hL
  obtain ⟨M, pc', gl, st⟩ := g
  simp only at hpc
  subst hpc
  obtain ⟨⟨hx, hb, hml, hown⟩, hts, hnw, hK, hlay, hA, hlk, hcl, hsl⟩ := X
  simp only at h1 h2 hP hD hL
  obtain ⟨rfl, rfl⟩ := Prod.mk.inj (Option.some.inj (show some (((M, pc' + 1, gl, .inl v :: st) : mm_C), (True)) = some (g', P) from hf))
  exact lv_iconst hx hb d hv (hG (sk_i h1) h2 H locs ls hP hD hS hL)
set_option maxHeartbeats 1000000 in
theorem ok_bipush {n : Int} {v : Int32} (d : decode cc pc = .ok (.bipush n, 2)) (hv : (Int8.ofInt n).toInt32 = v) : mm_Ok GW NW D cl tys ad cA K kd N l R own cc nL S pc (mi_push v 2) := by
  intro p e s m args below meth c A cells slots Q X o g g' P hpc hf hP9 hG h1 h2 H locs ls hP hD hS hL
  obtain ⟨M, pc', gl, st⟩ := g
  simp only at hpc
  subst hpc
  obtain ⟨⟨hx, hb, hml, hown⟩, hts, hnw, hK, hlay, hA, hlk, hcl, hsl⟩ := X
  simp only at h1 h2 hP hD hL
  obtain ⟨rfl, rfl⟩ := Prod.mk.inj (Option.some.inj (show some (((M, pc' + 2, gl, .inl v :: st) : mm_C), (True)) = some (g', P) from hf))
  exact lv_bipush hx hb d hv (hG (sk_i h1) h2 H locs ls hP hD hS hL)
set_option maxHeartbeats 1000000 in
theorem ok_sipush {n : Int} {v : Int32} (d : decode cc pc = .ok (.sipush n, 3)) (hv : (Int16.ofInt n).toInt32 = v) : mm_Ok GW NW D cl tys ad cA K kd N l R own cc nL S pc (mi_push v 3) := by
  intro p e s m args below meth c A cells slots Q X o g g' P hpc hf hP9 hG h1 h2 H locs ls hP hD hS hL
  obtain ⟨M, pc', gl, st⟩ := g
  simp only at hpc
  subst hpc
  obtain ⟨⟨hx, hb, hml, hown⟩, hts, hnw, hK, hlay, hA, hlk, hcl, hsl⟩ := X
  simp only at h1 h2 hP hD hL
  obtain ⟨rfl, rfl⟩ := Prod.mk.inj (Option.some.inj (show some (((M, pc' + 3, gl, .inl v :: st) : mm_C), (True)) = some (g', P) from hf))
  exact lv_sipush hx hb d hv (hG (sk_i h1) h2 H locs ls hP hD hS hL)
set_option maxHeartbeats 1000000 in
theorem ok_ldc {idx : Nat} {v : Int32} (hc : Jvm.Cond.constant own idx v ∈ GW) (d : decode cc pc = .ok (.ldc idx, 2)) : mm_Ok GW NW D cl tys ad cA K kd N l R own cc nL S pc (mi_push v 2) := by
  intro p e s m args below meth c A cells slots Q X o g g' P hpc hf hP9 hG h1 h2 H locs ls hP hD hS hL
  obtain ⟨M, pc', gl, st⟩ := g
  simp only at hpc
  subst hpc
  obtain ⟨⟨hx, hb, hml, hown⟩, hts, hnw, hK, hlay, hA, hlk, hcl, hsl⟩ := X
  simp only at h1 h2 hP hD hL
  obtain ⟨rfl, rfl⟩ := Prod.mk.inj (Option.some.inj (show some (((M, pc' + 2, gl, .inl v :: st) : mm_C), (True)) = some (g', P) from hf))
  exact lv_ldc hx hb hown (hts _ hc) d (hG (sk_i h1) h2 H locs ls hP hD hS hL)
set_option maxHeartbeats 1000000 in
theorem ok_iload_n {k : Fin 4} {i : Nat} (d : decode cc pc = .ok (.iload_n k, 1)) (hi : (k : Nat) = i) : mm_Ok GW NW D cl tys ad cA K kd N l R own cc nL S pc (mi_iload i 1) := by
  intro p e s m args below meth c A cells slots Q X o g g' P hpc hf hP9 hG h1 h2 H locs ls hP hD hS hL
  obtain ⟨M, pc', gl, st⟩ := g
  simp only at hpc
  subst hpc
  obtain ⟨⟨hx, hb, hml, hown⟩, hts, hnw, hK, hlay, hA, hlk, hcl, hsl⟩ := X
  simp only at h1 h2 hP hD hL
  cases hg : gl[i]? with
  | none => simp [mi_iload, hg] at hf
  | some w =>
    rcases w with _ | x | x
    · simp [mi_iload, hg] at hf
    · obtain ⟨rfl, rfl⟩ := Prod.mk.inj (Option.some.inj (show some (((M, pc' + 1, gl, .inl x :: st) : mm_C), True) = some (g', P) from by rw [← hf]; simp [mi_iload, hg]))
      exact lv_iload_n hx hb d hi (mm_L_at hL hg) (hG (sk_i h1) h2 H locs ls hP hD hS hL)
    · simp [mi_iload, hg] at hf
set_option maxHeartbeats 1000000 in
theorem ok_iload {i : Nat} (d : decode cc pc = .ok (.iload i, 2)) : mm_Ok GW NW D cl tys ad cA K kd N l R own cc nL S pc (mi_iload i 2) := by
  intro p e s m args below meth c A cells slots Q X o g g' P hpc hf hP9 hG h1 h2 H locs ls hP hD hS hL
  obtain ⟨M, pc', gl, st⟩ := g
  simp only at hpc
  subst hpc
  obtain ⟨⟨hx, hb, hml, hown⟩, hts, hnw, hK, hlay, hA, hlk, hcl, hsl⟩ := X
  simp only at h1 h2 hP hD hL
  cases hg : gl[i]? with
  | none => simp [mi_iload, hg] at hf
  | some w =>
    rcases w with _ | x | x
    · simp [mi_iload, hg] at hf
    · obtain ⟨rfl, rfl⟩ := Prod.mk.inj (Option.some.inj (show some (((M, pc' + 2, gl, .inl x :: st) : mm_C), True) = some (g', P) from by rw [← hf]; simp [mi_iload, hg]))
      exact lv_iload hx hb d (mm_L_at hL hg) (hG (sk_i h1) h2 H locs ls hP hD hS hL)
    · simp [mi_iload, hg] at hf
set_option maxHeartbeats 1000000 in
theorem ok_aload_n {k : Fin 4} {i : Nat} (d : decode cc pc = .ok (.aload_n k, 1)) (hi : (k : Nat) = i) : mm_Ok GW NW D cl tys ad cA K kd N l R own cc nL S pc (mi_aload i 1) := by
  intro p e s m args below meth c A cells slots Q X o g g' P hpc hf hP9 hG h1 h2 H locs ls hP hD hS hL
  obtain ⟨M, pc', gl, st⟩ := g
  simp only at hpc
  subst hpc
  obtain ⟨⟨hx, hb, hml, hown⟩, hts, hnw, hK, hlay, hA, hlk, hcl, hsl⟩ := X
  simp only at h1 h2 hP hD hL
  cases hg : gl[i]? with
  | none => simp [mi_aload, hg] at hf
  | some w =>
    rcases w with _ | x | x
    · simp [mi_aload, hg] at hf
    · simp [mi_aload, hg] at hf
    · obtain ⟨rfl, rfl⟩ := Prod.mk.inj (Option.some.inj (show some (((M, pc' + 1, gl, .inr x :: st) : mm_C), True) = some (g', P) from by rw [← hf]; simp [mi_aload, hg]))
      exact lv_aload_n hx hb d hi (mm_L_at hL hg) (hG (sk_r (h2 _ (List.mem_of_getElem? hg)) h1) h2 H locs ls hP hD hS hL)
set_option maxHeartbeats 1000000 in
theorem ok_aload {i : Nat} (d : decode cc pc = .ok (.aload i, 2)) : mm_Ok GW NW D cl tys ad cA K kd N l R own cc nL S pc (mi_aload i 2) := by
  intro p e s m args below meth c A cells slots Q X o g g' P hpc hf hP9 hG h1 h2 H locs ls hP hD hS hL
  obtain ⟨M, pc', gl, st⟩ := g
  simp only at hpc
  subst hpc
  obtain ⟨⟨hx, hb, hml, hown⟩, hts, hnw, hK, hlay, hA, hlk, hcl, hsl⟩ := X
  simp only at h1 h2 hP hD hL
  cases hg : gl[i]? with
  | none => simp [mi_aload, hg] at hf
  | some w =>
    rcases w with _ | x | x
    · simp [mi_aload, hg] at hf
    · simp [mi_aload, hg] at hf
    · obtain ⟨rfl, rfl⟩ := Prod.mk.inj (Option.some.inj (show some (((M, pc' + 2, gl, .inr x :: st) : mm_C), True) = some (g', P) from by rw [← hf]; simp [mi_aload, hg]))
      exact lv_aload hx hb d (mm_L_at hL hg) (hG (sk_r (h2 _ (List.mem_of_getElem? hg)) h1) h2 H locs ls hP hD hS hL)
set_option maxHeartbeats 1000000 in
theorem ok_istore_n {k : Fin 4} {i : Nat} (d : decode cc pc = .ok (.istore_n k, 1)) (hi : (k : Nat) = i) : mm_Ok GW NW D cl tys ad cA K kd N l R own cc nL S pc (mi_istore i 1) := by
  intro p e s m args below meth c A cells slots Q X o g g' P hpc hf hP9 hG h1 h2 H locs ls hP hD hS hL
  obtain ⟨M, pc', gl, st⟩ := g
  simp only at hpc
  subst hpc
  obtain ⟨⟨hx, hb, hml, hown⟩, hts, hnw, hK, hlay, hA, hlk, hcl, hsl⟩ := X
  simp only at h1 h2 hP hD hL
  rcases st with _ | ⟨x | x, t⟩
  · simp [mi_istore] at hf
  · obtain ⟨rfl, rfl⟩ := Prod.mk.inj (Option.some.inj (show some (((M, pc' + 1, gl.set i (some (.inl x)), t) : mm_C), i < gl.length) = some (g', P) from hf))
    have hi9 : i < nL := by rw [← hL.2.1]; exact hP9
    exact lv_istore_n hx hb d hi (mm_L_lv hL) hi9 rfl (fun ls' hl' => hG (sk_t h1) (lk_s (trivial) h2) H locs ls' hP hD hS (mm_L_of (v := (.inl x : mm_V)) hL.2.1 hi9 hl'))
  · simp [mi_istore] at hf
set_option maxHeartbeats 1000000 in
theorem ok_istore {i : Nat} (d : decode cc pc = .ok (.istore i, 2)) : mm_Ok GW NW D cl tys ad cA K kd N l R own cc nL S pc (mi_istore i 2) := by
  intro p e s m args below meth c A cells slots Q X o g g' P hpc hf hP9 hG h1 h2 H locs ls hP hD hS hL
  obtain ⟨M, pc', gl, st⟩ := g
  simp only at hpc
  subst hpc
  obtain ⟨⟨hx, hb, hml, hown⟩, hts, hnw, hK, hlay, hA, hlk, hcl, hsl⟩ := X
  simp only at h1 h2 hP hD hL
  rcases st with _ | ⟨x | x, t⟩
  · simp [mi_istore] at hf
  · obtain ⟨rfl, rfl⟩ := Prod.mk.inj (Option.some.inj (show some (((M, pc' + 2, gl.set i (some (.inl x)), t) : mm_C), i < gl.length) = some (g', P) from hf))
    have hi9 : i < nL := by rw [← hL.2.1]; exact hP9
    exact lv_istore hx hb d (mm_L_lv hL) hi9 rfl (fun ls' hl' => hG (sk_t h1) (lk_s (trivial) h2) H locs ls' hP hD hS (mm_L_of (v := (.inl x : mm_V)) hL.2.1 hi9 hl'))
  · simp [mi_istore] at hf
set_option maxHeartbeats 1000000 in
theorem ok_astore_n {k : Fin 4} {i : Nat} (d : decode cc pc = .ok (.astore_n k, 1)) (hi : (k : Nat) = i) : mm_Ok GW NW D cl tys ad cA K kd N l R own cc nL S pc (mi_astore i 1) := by
  intro p e s m args below meth c A cells slots Q X o g g' P hpc hf hP9 hG h1 h2 H locs ls hP hD hS hL
  obtain ⟨M, pc', gl, st⟩ := g
  simp only at hpc
  subst hpc
  obtain ⟨⟨hx, hb, hml, hown⟩, hts, hnw, hK, hlay, hA, hlk, hcl, hsl⟩ := X
  simp only at h1 h2 hP hD hL
  rcases st with _ | ⟨x | x, t⟩
  · simp [mi_astore] at hf
  · simp [mi_astore] at hf
  · obtain ⟨rfl, rfl⟩ := Prod.mk.inj (Option.some.inj (show some (((M, pc' + 1, gl.set i (some (.inr x)), t) : mm_C), i < gl.length) = some (g', P) from hf))
    have hi9 : i < nL := by rw [← hL.2.1]; exact hP9
    exact lv_astore_n hx hb d hi (mm_L_lv hL) hi9 rfl (fun ls' hl' => hG (sk_t h1) (lk_s (sk_h h1) h2) H locs ls' hP hD hS (mm_L_of (v := (.inr x : mm_V)) hL.2.1 hi9 hl'))
set_option maxHeartbeats 1000000 in
theorem ok_astore {i : Nat} (d : decode cc pc = .ok (.astore i, 2)) : mm_Ok GW NW D cl tys ad cA K kd N l R own cc nL S pc (mi_astore i 2) := by
  intro p e s m args below meth c A cells slots Q X o g g' P hpc hf hP9 hG h1 h2 H locs ls hP hD hS hL
  obtain ⟨M, pc', gl, st⟩ := g
  simp only at hpc
  subst hpc
  obtain ⟨⟨hx, hb, hml, hown⟩, hts, hnw, hK, hlay, hA, hlk, hcl, hsl⟩ := X
  simp only at h1 h2 hP hD hL
  rcases st with _ | ⟨x | x, t⟩
  · simp [mi_astore] at hf
  · simp [mi_astore] at hf
  · obtain ⟨rfl, rfl⟩ := Prod.mk.inj (Option.some.inj (show some (((M, pc' + 2, gl.set i (some (.inr x)), t) : mm_C), i < gl.length) = some (g', P) from hf))
    have hi9 : i < nL := by rw [← hL.2.1]; exact hP9
    exact lv_astore hx hb d (mm_L_lv hL) hi9 rfl (fun ls' hl' => hG (sk_t h1) (lk_s (sk_h h1) h2) H locs ls' hP hD hS (mm_L_of (v := (.inr x : mm_V)) hL.2.1 hi9 hl'))
set_option maxHeartbeats 1000000 in
theorem ok_iinc {i : Nat} {n : Int} {v : Int32} (d : decode cc pc = .ok (.iinc i n, 3)) (hv : Int32.ofInt n = v) : mm_Ok GW NW D cl tys ad cA K kd N l R own cc nL S pc (mi_iinc i v) := by
  intro p e s m args below meth c A cells slots Q X o g g' P hpc hf hP9 hG h1 h2 H locs ls hP hD hS hL
  obtain ⟨M, pc', gl, st⟩ := g
  simp only at hpc
  subst hpc
  obtain ⟨⟨hx, hb, hml, hown⟩, hts, hnw, hK, hlay, hA, hlk, hcl, hsl⟩ := X
  simp only at h1 h2 hP hD hL
  cases hg : gl[i]? with
  | none => simp [mi_iinc, hg] at hf
  | some w =>
    rcases w with _ | x | x
    · simp [mi_iinc, hg] at hf
    · obtain ⟨rfl, rfl⟩ := Prod.mk.inj (Option.some.inj (show some (((M, pc' + 3, gl.set i (some (.inl (x + v))), st) : mm_C), True) = some (g', P) from by rw [← hf]; simp [mi_iinc, hg]))
      have hi9 : i < nL := by rw [← hL.2.1]; exact (List.getElem?_eq_some_iff.mp hg).1
      obtain ⟨kq, hkq⟩ := List.getElem?_of_mem (mm_lv_mem (ad := ad) (q := (i, Value.int x)).mpr ⟨.inl x, hg, rfl⟩)
      exact lv_iinc (v := x + v) hx hb d (mm_L_lv hL) hkq (by rw [hv]) hi9 rfl (fun ls' hl' => hG h1 (lk_s trivial h2) H locs ls' hP hD hS (mm_L_of (v := (.inl (x + v) : mm_V)) hL.2.1 hi9 hl'))
    · simp [mi_iinc, hg] at hf
set_option maxHeartbeats 1000000 in
theorem ok_iadd (d : decode cc pc = .ok (.iadd, 1)) : mm_Ok GW NW D cl tys ad cA K kd N l R own cc nL S pc (mi_bin (fun x y => x + y) 1) := by
  intro p e s m args below meth c A cells slots Q X o g g' P hpc hf hP9 hG h1 h2 H locs ls hP hD hS hL
  obtain ⟨M, pc', gl, st⟩ := g
  simp only at hpc
  subst hpc
  obtain ⟨⟨hx, hb, hml, hown⟩, hts, hnw, hK, hlay, hA, hlk, hcl, hsl⟩ := X
  simp only at h1 h2 hP hD hL
  rcases st with _ | ⟨y | y, _ | ⟨x | x, t⟩⟩
  · simp [mi_bin] at hf
  · simp [mi_bin] at hf
  · obtain ⟨rfl, rfl⟩ := Prod.mk.inj (Option.some.inj (show some (((M, pc' + 1, gl, .inl (x + y) :: t) : mm_C), True) = some (g', P) from hf))
    exact lv_iadd hx hb d (hG (sk_i (sk_t (sk_t h1))) h2 H locs ls hP hD hS hL)
  · simp [mi_bin] at hf
  · simp [mi_bin] at hf
  · simp [mi_bin] at hf
  · simp [mi_bin] at hf
set_option maxHeartbeats 1000000 in
theorem ok_isub (d : decode cc pc = .ok (.isub, 1)) : mm_Ok GW NW D cl tys ad cA K kd N l R own cc nL S pc (mi_bin (fun x y => x - y) 1) := by
  intro p e s m args below meth c A cells slots Q X o g g' P hpc hf hP9 hG h1 h2 H locs ls hP hD hS hL
  obtain ⟨M, pc', gl, st⟩ := g
  simp only at hpc
  subst hpc
  obtain ⟨⟨hx, hb, hml, hown⟩, hts, hnw, hK, hlay, hA, hlk, hcl, hsl⟩ := X
  simp only at h1 h2 hP hD hL
  rcases st with _ | ⟨y | y, _ | ⟨x | x, t⟩⟩
  · simp [mi_bin] at hf
  · simp [mi_bin] at hf
  · obtain ⟨rfl, rfl⟩ := Prod.mk.inj (Option.some.inj (show some (((M, pc' + 1, gl, .inl (x - y) :: t) : mm_C), True) = some (g', P) from hf))
    exact lv_isub hx hb d (hG (sk_i (sk_t (sk_t h1))) h2 H locs ls hP hD hS hL)
  · simp [mi_bin] at hf
  · simp [mi_bin] at hf
  · simp [mi_bin] at hf
  · simp [mi_bin] at hf
set_option maxHeartbeats 1000000 in
theorem ok_imul (d : decode cc pc = .ok (.imul, 1)) : mm_Ok GW NW D cl tys ad cA K kd N l R own cc nL S pc (mi_bin (fun x y => x * y) 1) := by
  intro p e s m args below meth c A cells slots Q X o g g' P hpc hf hP9 hG h1 h2 H locs ls hP hD hS hL
  obtain ⟨M, pc', gl, st⟩ := g
  simp only at hpc
  subst hpc
  obtain ⟨⟨hx, hb, hml, hown⟩, hts, hnw, hK, hlay, hA, hlk, hcl, hsl⟩ := X
  simp only at h1 h2 hP hD hL
  rcases st with _ | ⟨y | y, _ | ⟨x | x, t⟩⟩
  · simp [mi_bin] at hf
  · simp [mi_bin] at hf
  · obtain ⟨rfl, rfl⟩ := Prod.mk.inj (Option.some.inj (show some (((M, pc' + 1, gl, .inl (x * y) :: t) : mm_C), True) = some (g', P) from hf))
    exact lv_imul hx hb d (hG (sk_i (sk_t (sk_t h1))) h2 H locs ls hP hD hS hL)
  · simp [mi_bin] at hf
  · simp [mi_bin] at hf
  · simp [mi_bin] at hf
  · simp [mi_bin] at hf
set_option maxHeartbeats 1000000 in
theorem ok_iand (d : decode cc pc = .ok (.iand, 1)) : mm_Ok GW NW D cl tys ad cA K kd N l R own cc nL S pc (mi_bin (fun x y => x &&& y) 1) := by
  intro p e s m args below meth c A cells slots Q X o g g' P hpc hf hP9 hG h1 h2 H locs ls hP hD hS hL
  obtain ⟨M, pc', gl, st⟩ := g
  simp only at hpc
  subst hpc
  obtain ⟨⟨hx, hb, hml, hown⟩, hts, hnw, hK, hlay, hA, hlk, hcl, hsl⟩ := X
  simp only at h1 h2 hP hD hL
  rcases st with _ | ⟨y | y, _ | ⟨x | x, t⟩⟩
  · simp [mi_bin] at hf
  · simp [mi_bin] at hf
  · obtain ⟨rfl, rfl⟩ := Prod.mk.inj (Option.some.inj (show some (((M, pc' + 1, gl, .inl (x &&& y) :: t) : mm_C), True) = some (g', P) from hf))
    exact lv_iand hx hb d (hG (sk_i (sk_t (sk_t h1))) h2 H locs ls hP hD hS hL)
  · simp [mi_bin] at hf
  · simp [mi_bin] at hf
  · simp [mi_bin] at hf
  · simp [mi_bin] at hf
set_option maxHeartbeats 1000000 in
theorem ok_ior (d : decode cc pc = .ok (.ior, 1)) : mm_Ok GW NW D cl tys ad cA K kd N l R own cc nL S pc (mi_bin (fun x y => x ||| y) 1) := by
  intro p e s m args below meth c A cells slots Q X o g g' P hpc hf hP9 hG h1 h2 H locs ls hP hD hS hL
  obtain ⟨M, pc', gl, st⟩ := g
  simp only at hpc
  subst hpc
  obtain ⟨⟨hx, hb, hml, hown⟩, hts, hnw, hK, hlay, hA, hlk, hcl, hsl⟩ := X
  simp only at h1 h2 hP hD hL
  rcases st with _ | ⟨y | y, _ | ⟨x | x, t⟩⟩
  · simp [mi_bin] at hf
  · simp [mi_bin] at hf
  · obtain ⟨rfl, rfl⟩ := Prod.mk.inj (Option.some.inj (show some (((M, pc' + 1, gl, .inl (x ||| y) :: t) : mm_C), True) = some (g', P) from hf))
    exact lv_ior hx hb d (hG (sk_i (sk_t (sk_t h1))) h2 H locs ls hP hD hS hL)
  · simp [mi_bin] at hf
  · simp [mi_bin] at hf
  · simp [mi_bin] at hf
  · simp [mi_bin] at hf
set_option maxHeartbeats 1000000 in
theorem ok_ixor (d : decode cc pc = .ok (.ixor, 1)) : mm_Ok GW NW D cl tys ad cA K kd N l R own cc nL S pc (mi_bin (fun x y => x ^^^ y) 1) := by
  intro p e s m args below meth c A cells slots Q X o g g' P hpc hf hP9 hG h1 h2 H locs ls hP hD hS hL
  obtain ⟨M, pc', gl, st⟩ := g
  simp only at hpc
  subst hpc
  obtain ⟨⟨hx, hb, hml, hown⟩, hts, hnw, hK, hlay, hA, hlk, hcl, hsl⟩ := X
  simp only at h1 h2 hP hD hL
  rcases st with _ | ⟨y | y, _ | ⟨x | x, t⟩⟩
  · simp [mi_bin] at hf
  · simp [mi_bin] at hf
  · obtain ⟨rfl, rfl⟩ := Prod.mk.inj (Option.some.inj (show some (((M, pc' + 1, gl, .inl (x ^^^ y) :: t) : mm_C), True) = some (g', P) from hf))
    exact lv_ixor hx hb d (hG (sk_i (sk_t (sk_t h1))) h2 H locs ls hP hD hS hL)
  · simp [mi_bin] at hf
  · simp [mi_bin] at hf
  · simp [mi_bin] at hf
  · simp [mi_bin] at hf
set_option maxHeartbeats 1000000 in
theorem ok_idiv (d : decode cc pc = .ok (.idiv, 1)) : mm_Ok GW NW D cl tys ad cA K kd N l R own cc nL S pc (mi_div) := by
  intro p e s m args below meth c A cells slots Q X o g g' P hpc hf hP9 hG h1 h2 H locs ls hP hD hS hL
  obtain ⟨M, pc', gl, st⟩ := g
  simp only at hpc
  subst hpc
  obtain ⟨⟨hx, hb, hml, hown⟩, hts, hnw, hK, hlay, hA, hlk, hcl, hsl⟩ := X
  simp only at h1 h2 hP hD hL
  rcases st with _ | ⟨y | y, _ | ⟨x | x, t⟩⟩
  · simp [mi_div] at hf
  · simp [mi_div] at hf
  · obtain ⟨rfl, rfl⟩ := Prod.mk.inj (Option.some.inj (show some (((M, pc' + 1, gl, .inl (x / y) :: t) : mm_C), ¬ y = 0) = some (g', P) from hf))
    exact lv_idiv hx hb d hP9 (hG (sk_i (sk_t (sk_t h1))) h2 H locs ls hP hD hS hL)
  · simp [mi_div] at hf
  · simp [mi_div] at hf
  · simp [mi_div] at hf
  · simp [mi_div] at hf
set_option maxHeartbeats 1000000 in
theorem ok_irem (d : decode cc pc = .ok (.irem, 1)) : mm_Ok GW NW D cl tys ad cA K kd N l R own cc nL S pc (mi_rem) := by
  intro p e s m args below meth c A cells slots Q X o g g' P hpc hf hP9 hG h1 h2 H locs ls hP hD hS hL
  obtain ⟨M, pc', gl, st⟩ := g
  simp only at hpc
  subst hpc
  obtain ⟨⟨hx, hb, hml, hown⟩, hts, hnw, hK, hlay, hA, hlk, hcl, hsl⟩ := X
  simp only at h1 h2 hP hD hL
  rcases st with _ | ⟨y | y, _ | ⟨x | x, t⟩⟩
  · simp [mi_rem] at hf
  · simp [mi_rem] at hf
  · obtain ⟨rfl, rfl⟩ := Prod.mk.inj (Option.some.inj (show some (((M, pc' + 1, gl, .inl (x - x / y * y) :: t) : mm_C), ¬ y = 0) = some (g', P) from hf))
    exact lv_irem hx hb d hP9 (hG (sk_i (sk_t (sk_t h1))) h2 H locs ls hP hD hS hL)
  · simp [mi_rem] at hf
  · simp [mi_rem] at hf
  · simp [mi_rem] at hf
  · simp [mi_rem] at hf
set_option maxHeartbeats 1000000 in
theorem ok_min {idx : Nat} (w1 : Cond.methodLink own idx Lib.Math.min.name ∈ GW) (w2 : Cond.static Lib.Math.min.name ∈ GW) (w3 : Cond.initialized "java/lang/Math" ∈ GW) (w4 : Cond.code Lib.Math.min.name Lib.Math.min.code 2 (some .int) ∈ GW) (hR : 1 ≤ R.frames ∧ 30 ≤ R.locals) (d : decode cc pc = .ok (.invokestatic idx, 3)) : mm_Ok GW NW D cl tys ad cA K kd N l R own cc nL S pc (mi_mm (fun x y => if y < x then y else x)) := by
  intro p e s m args below meth c A cells slots Q X o g g' P hpc hf hP9 hG h1 h2 H locs ls hP hD hS hL
  obtain ⟨M, pc', gl, st⟩ := g
  simp only at hpc
  subst hpc
  obtain ⟨⟨hx, hb, hml, hown⟩, hts, hnw, hK, hlay, hA, hlk, hcl, hsl⟩ := X
  simp only at h1 h2 hP hD hL
  rcases st with _ | ⟨y | y, _ | ⟨x | x, t⟩⟩
  · simp [mi_mm] at hf
  · simp [mi_mm] at hf
  · obtain ⟨rfl, rfl⟩ := Prod.mk.inj (Option.some.inj (show some (((M, pc' + 3, gl, .inl (if y < x then y else x) :: t) : mm_C), t.length ≤ 8) = some (g', P) from hf))
    have hsum : ((t.map (mm_v ad)).map fun v => v.category).sum = t.length := mm_sum t
    have hl9 : t.length ≤ 8 := hP9
    exact va_mmin hx hb (by rw [hml]; exact hL.1.symm) hown (hts _ w1) (hts _ w2) (hts _ w3) (hts _ w4) hR.1 (by rw [hsum]; omega) hcl hsl d (hG (sk_i (sk_t (sk_t h1))) h2 H locs ls hP hD hS hL)
  · simp [mi_mm] at hf
  · simp [mi_mm] at hf
  · simp [mi_mm] at hf
  · simp [mi_mm] at hf
set_option maxHeartbeats 1000000 in
theorem ok_max {idx : Nat} (w1 : Cond.methodLink own idx Lib.Math.max.name ∈ GW) (w2 : Cond.static Lib.Math.max.name ∈ GW) (w3 : Cond.initialized "java/lang/Math" ∈ GW) (w4 : Cond.code Lib.Math.max.name Lib.Math.max.code 2 (some .int) ∈ GW) (hR : 1 ≤ R.frames ∧ 30 ≤ R.locals) (d : decode cc pc = .ok (.invokestatic idx, 3)) : mm_Ok GW NW D cl tys ad cA K kd N l R own cc nL S pc (mi_mm (fun x y => if x < y then y else x)) := by
  intro p e s m args below meth c A cells slots Q X o g g' P hpc hf hP9 hG h1 h2 H locs ls hP hD hS hL
  obtain ⟨M, pc', gl, st⟩ := g
  simp only at hpc
  subst hpc
  obtain ⟨⟨hx, hb, hml, hown⟩, hts, hnw, hK, hlay, hA, hlk, hcl, hsl⟩ := X
  simp only at h1 h2 hP hD hL
  rcases st with _ | ⟨y | y, _ | ⟨x | x, t⟩⟩
  · simp [mi_mm] at hf
  · simp [mi_mm] at hf
  · obtain ⟨rfl, rfl⟩ := Prod.mk.inj (Option.some.inj (show some (((M, pc' + 3, gl, .inl (if x < y then y else x) :: t) : mm_C), t.length ≤ 8) = some (g', P) from hf))
    have hsum : ((t.map (mm_v ad)).map fun v => v.category).sum = t.length := mm_sum t
    have hl9 : t.length ≤ 8 := hP9
    exact va_mmax hx hb (by rw [hml]; exact hL.1.symm) hown (hts _ w1) (hts _ w2) (hts _ w3) (hts _ w4) hR.1 (by rw [hsum]; omega) hcl hsl d (hG (sk_i (sk_t (sk_t h1))) h2 H locs ls hP hD hS hL)
  · simp [mi_mm] at hf
  · simp [mi_mm] at hf
  · simp [mi_mm] at hf
  · simp [mi_mm] at hf
set_option maxHeartbeats 1000000 in
theorem ok_dup (d : decode cc pc = .ok (.dup, 1)) : mm_Ok GW NW D cl tys ad cA K kd N l R own cc nL S pc (mi_dup) := by
  intro p e s m args below meth c A cells slots Q X o g g' P hpc hf hP9 hG h1 h2 H locs ls hP hD hS hL
  obtain ⟨M, pc', gl, st⟩ := g
  simp only at hpc
  subst hpc
  obtain ⟨⟨hx, hb, hml, hown⟩, hts, hnw, hK, hlay, hA, hlk, hcl, hsl⟩ := X
  simp only at h1 h2 hP hD hL
  rcases st with _ | ⟨a, t⟩
  · simp [mi_dup] at hf
  · obtain ⟨rfl, rfl⟩ := Prod.mk.inj (Option.some.inj (show some (((M, pc' + 1, gl, a :: a :: t) : mm_C), True) = some (g', P) from hf))
    exact lv_dup hx hb d (mm_v_cat ad a) (hG (sk_r (sk_h h1) h1) h2 H locs ls hP hD hS hL)
set_option maxHeartbeats 1000000 in
theorem ok_pop (d : decode cc pc = .ok (.pop, 1)) : mm_Ok GW NW D cl tys ad cA K kd N l R own cc nL S pc (mi_pop) := by
  intro p e s m args below meth c A cells slots Q X o g g' P hpc hf hP9 hG h1 h2 H locs ls hP hD hS hL
  obtain ⟨M, pc', gl, st⟩ := g
  simp only at hpc
  subst hpc
  obtain ⟨⟨hx, hb, hml, hown⟩, hts, hnw, hK, hlay, hA, hlk, hcl, hsl⟩ := X
  simp only at h1 h2 hP hD hL
  rcases st with _ | ⟨a, t⟩
  · simp [mi_pop] at hf
  · obtain ⟨rfl, rfl⟩ := Prod.mk.inj (Option.some.inj (show some (((M, pc' + 1, gl, t) : mm_C), True) = some (g', P) from hf))
    exact lv_pop hx hb d (mm_v_cat ad a) (hG (sk_t h1) h2 H locs ls hP hD hS hL)
set_option maxHeartbeats 1000000 in
theorem ok_dup2 (d : decode cc pc = .ok (.dup2, 1)) : mm_Ok GW NW D cl tys ad cA K kd N l R own cc nL S pc (mi_dup2) := by
  intro p e s m args below meth c A cells slots Q X o g g' P hpc hf hP9 hG h1 h2 H locs ls hP hD hS hL
  obtain ⟨M, pc', gl, st⟩ := g
  simp only at hpc
  subst hpc
  obtain ⟨⟨hx, hb, hml, hown⟩, hts, hnw, hK, hlay, hA, hlk, hcl, hsl⟩ := X
  simp only at h1 h2 hP hD hL
  rcases st with _ | ⟨a, _ | ⟨b, t⟩⟩
  · simp [mi_dup2] at hf
  · simp [mi_dup2] at hf
  · obtain ⟨rfl, rfl⟩ := Prod.mk.inj (Option.some.inj (show some (((M, pc' + 1, gl, a :: b :: a :: b :: t) : mm_C), True) = some (g', P) from hf))
    exact lv_dup2_11 hx hb d (mm_v_cat ad a) (mm_v_cat ad b) (hG (sk_r (sk_h h1) (sk_r (sk_h (sk_t h1)) h1)) h2 H locs ls hP hD hS hL)
set_option maxHeartbeats 1000000 in
theorem ok_dupx1 (d : decode cc pc = .ok (.dup_x1, 1)) : mm_Ok GW NW D cl tys ad cA K kd N l R own cc nL S pc (mi_dupx1) := by
  intro p e s m args below meth c A cells slots Q X o g g' P hpc hf hP9 hG h1 h2 H locs ls hP hD hS hL
  obtain ⟨M, pc', gl, st⟩ := g
  simp only at hpc
  subst hpc
  obtain ⟨⟨hx, hb, hml, hown⟩, hts, hnw, hK, hlay, hA, hlk, hcl, hsl⟩ := X
  simp only at h1 h2 hP hD hL
  rcases st with _ | ⟨a, _ | ⟨b, t⟩⟩
  · simp [mi_dupx1] at hf
  · simp [mi_dupx1] at hf
  · obtain ⟨rfl, rfl⟩ := Prod.mk.inj (Option.some.inj (show some (((M, pc' + 1, gl, a :: b :: a :: t) : mm_C), True) = some (g', P) from hf))
    exact lv_dup_x1 hx hb d (mm_v_cat ad a) (mm_v_cat ad b) (hG (sk_r (sk_h h1) (sk_r (sk_h (sk_t h1)) (sk_r (sk_h h1) (sk_t (sk_t h1))))) h2 H locs ls hP hD hS hL)
set_option maxHeartbeats 1000000 in
theorem ok_goto {off : Int} {tgt : Nat} (d : decode cc pc = .ok (.goto off, 3)) (ht : (pc : Int) + off = (tgt : Int)) : mm_Ok GW NW D cl tys ad cA K kd N l R own cc nL S pc (mi_goto tgt) := by
  intro p e s m args below meth c A cells slots Q X o g g' P hpc hf hP9 hG h1 h2 H locs ls hP hD hS hL
  obtain ⟨M, pc', gl, st⟩ := g
  simp only at hpc
  subst hpc
  obtain ⟨⟨hx, hb, hml, hown⟩, hts, hnw, hK, hlay, hA, hlk, hcl, hsl⟩ := X
  simp only at h1 h2 hP hD hL
  obtain ⟨rfl, rfl⟩ := Prod.mk.inj (Option.some.inj (show some (((M, tgt, gl, st) : mm_C), True) = some (g', P) from hf))
  exact lv_goto hx hb d ht (hG h1 h2 H locs ls hP hD hS hL)
set_option maxHeartbeats 1000000 in
theorem ok_if_eq {off : Int} {tgt : Nat} (d : decode cc pc = .ok (.ifCond .eq off, 3)) (ht : (pc : Int) + off = (tgt : Int)) : mm_Ok GW NW D cl tys ad cA K kd N l R own cc nL S pc (mi_if (fun x => x = 0) tgt) := by
  intro p e s m args below meth c A cells slots Q X o g g' P hpc hf hP9 hG h1 h2 H locs ls hP hD hS hL
  obtain ⟨M, pc', gl, st⟩ := g
  simp only at hpc
  subst hpc
  obtain ⟨⟨hx, hb, hml, hown⟩, hts, hnw, hK, hlay, hA, hlk, hcl, hsl⟩ := X
  simp only at h1 h2 hP hD hL
  obtain ⟨w, o2⟩ := o
  rcases w with _ | w <;> rcases st with _ | ⟨x | x, t⟩
  · simp [mi_if] at hf
  · obtain ⟨rfl, rfl⟩ := Prod.mk.inj (Option.some.inj (show some (((M, pc' + 3, gl, t) : mm_C), ¬ (x = 0)) = some (g', P) from hf))
    exact lv_if_eq hx hb d ht (fun z => absurd z hP9) (fun _ => hG (sk_t h1) h2 H locs ls hP hD hS hL)
  · simp [mi_if] at hf
  · simp [mi_if] at hf
  · obtain ⟨rfl, rfl⟩ := Prod.mk.inj (Option.some.inj (show some (((M, tgt, gl, t) : mm_C), (x = 0)) = some (g', P) from hf))
    exact lv_if_eq hx hb d ht (fun _ => hG (sk_t h1) h2 H locs ls hP hD hS hL) (fun z => absurd hP9 z)
  · simp [mi_if] at hf
set_option maxHeartbeats 1000000 in
theorem ok_icmp_eq {off : Int} {tgt : Nat} (d : decode cc pc = .ok (.if_icmp .eq off, 3)) (ht : (pc : Int) + off = (tgt : Int)) : mm_Ok GW NW D cl tys ad cA K kd N l R own cc nL S pc (mi_cmp (fun x y => x = y) tgt) := by
  intro p e s m args below meth c A cells slots Q X o g g' P hpc hf hP9 hG h1 h2 H locs ls hP hD hS hL
  obtain ⟨M, pc', gl, st⟩ := g
  simp only at hpc
  subst hpc
  obtain ⟨⟨hx, hb, hml, hown⟩, hts, hnw, hK, hlay, hA, hlk, hcl, hsl⟩ := X
  simp only at h1 h2 hP hD hL
  obtain ⟨w, o2⟩ := o
  rcases w with _ | w <;> rcases st with _ | ⟨y | y, _ | ⟨x | x, t⟩⟩
  · simp [mi_cmp] at hf
  · simp [mi_cmp] at hf
  · obtain ⟨rfl, rfl⟩ := Prod.mk.inj (Option.some.inj (show some (((M, pc' + 3, gl, t) : mm_C), ¬ (x = y)) = some (g', P) from hf))
    exact lv_icmp_eq hx hb d ht (fun z => absurd z hP9) (fun _ => hG (sk_t (sk_t h1)) h2 H locs ls hP hD hS hL)
  · simp [mi_cmp] at hf
  · simp [mi_cmp] at hf
  · simp [mi_cmp] at hf
  · simp [mi_cmp] at hf
  · simp [mi_cmp] at hf
  · simp [mi_cmp] at hf
  · obtain ⟨rfl, rfl⟩ := Prod.mk.inj (Option.some.inj (show some (((M, tgt, gl, t) : mm_C), (x = y)) = some (g', P) from hf))
    exact lv_icmp_eq hx hb d ht (fun _ => hG (sk_t (sk_t h1)) h2 H locs ls hP hD hS hL) (fun z => absurd hP9 z)
  · simp [mi_cmp] at hf
  · simp [mi_cmp] at hf
  · simp [mi_cmp] at hf
  · simp [mi_cmp] at hf
set_option maxHeartbeats 1000000 in
theorem ok_if_ne {off : Int} {tgt : Nat} (d : decode cc pc = .ok (.ifCond .ne off, 3)) (ht : (pc : Int) + off = (tgt : Int)) : mm_Ok GW NW D cl tys ad cA K kd N l R own cc nL S pc (mi_if (fun x => ¬ x = 0) tgt) := by
  intro p e s m args below meth c A cells slots Q X o g g' P hpc hf hP9 hG h1 h2 H locs ls hP hD hS hL
  obtain ⟨M, pc', gl, st⟩ := g
  simp only at hpc
  subst hpc
  obtain ⟨⟨hx, hb, hml, hown⟩, hts, hnw, hK, hlay, hA, hlk, hcl, hsl⟩ := X
  simp only at h1 h2 hP hD hL
  obtain ⟨w, o2⟩ := o
  rcases w with _ | w <;> rcases st with _ | ⟨x | x, t⟩
  · simp [mi_if] at hf
  · obtain ⟨rfl, rfl⟩ := Prod.mk.inj (Option.some.inj (show some (((M, pc' + 3, gl, t) : mm_C), ¬ (¬ x = 0)) = some (g', P) from hf))
    exact lv_if_ne hx hb d ht (fun z => absurd z hP9) (fun _ => hG (sk_t h1) h2 H locs ls hP hD hS hL)
  · simp [mi_if] at hf
  · simp [mi_if] at hf
  · obtain ⟨rfl, rfl⟩ := Prod.mk.inj (Option.some.inj (show some (((M, tgt, gl, t) : mm_C), (¬ x = 0)) = some (g', P) from hf))
    exact lv_if_ne hx hb d ht (fun _ => hG (sk_t h1) h2 H locs ls hP hD hS hL) (fun z => absurd z hP9)
  · simp [mi_if] at hf
set_option maxHeartbeats 1000000 in
theorem ok_icmp_ne {off : Int} {tgt : Nat} (d : decode cc pc = .ok (.if_icmp .ne off, 3)) (ht : (pc : Int) + off = (tgt : Int)) : mm_Ok GW NW D cl tys ad cA K kd N l R own cc nL S pc (mi_cmp (fun x y => ¬ x = y) tgt) := by
  intro p e s m args below meth c A cells slots Q X o g g' P hpc hf hP9 hG h1 h2 H locs ls hP hD hS hL
  obtain ⟨M, pc', gl, st⟩ := g
  simp only at hpc
  subst hpc
  obtain ⟨⟨hx, hb, hml, hown⟩, hts, hnw, hK, hlay, hA, hlk, hcl, hsl⟩ := X
  simp only at h1 h2 hP hD hL
  obtain ⟨w, o2⟩ := o
  rcases w with _ | w <;> rcases st with _ | ⟨y | y, _ | ⟨x | x, t⟩⟩
  · simp [mi_cmp] at hf
  · simp [mi_cmp] at hf
  · obtain ⟨rfl, rfl⟩ := Prod.mk.inj (Option.some.inj (show some (((M, pc' + 3, gl, t) : mm_C), ¬ (¬ x = y)) = some (g', P) from hf))
    exact lv_icmp_ne hx hb d ht (fun z => absurd z hP9) (fun _ => hG (sk_t (sk_t h1)) h2 H locs ls hP hD hS hL)
  · simp [mi_cmp] at hf
  · simp [mi_cmp] at hf
  · simp [mi_cmp] at hf
  · simp [mi_cmp] at hf
  · simp [mi_cmp] at hf
  · simp [mi_cmp] at hf
  · obtain ⟨rfl, rfl⟩ := Prod.mk.inj (Option.some.inj (show some (((M, tgt, gl, t) : mm_C), (¬ x = y)) = some (g', P) from hf))
    exact lv_icmp_ne hx hb d ht (fun _ => hG (sk_t (sk_t h1)) h2 H locs ls hP hD hS hL) (fun z => absurd z hP9)
  · simp [mi_cmp] at hf
  · simp [mi_cmp] at hf
  · simp [mi_cmp] at hf
  · simp [mi_cmp] at hf
set_option maxHeartbeats 1000000 in
theorem ok_if_lt {off : Int} {tgt : Nat} (d : decode cc pc = .ok (.ifCond .lt off, 3)) (ht : (pc : Int) + off = (tgt : Int)) : mm_Ok GW NW D cl tys ad cA K kd N l R own cc nL S pc (mi_if (fun x => x < 0) tgt) := by
  intro p e s m args below meth c A cells slots Q X o g g' P hpc hf hP9 hG h1 h2 H locs ls hP hD hS hL
  obtain ⟨M, pc', gl, st⟩ := g
  simp only at hpc
  subst hpc
  obtain ⟨⟨hx, hb, hml, hown⟩, hts, hnw, hK, hlay, hA, hlk, hcl, hsl⟩ := X
  simp only at h1 h2 hP hD hL
  obtain ⟨w, o2⟩ := o
  rcases w with _ | w <;> rcases st with _ | ⟨x | x, t⟩
  · simp [mi_if] at hf
  · obtain ⟨rfl, rfl⟩ := Prod.mk.inj (Option.some.inj (show some (((M, pc' + 3, gl, t) : mm_C), ¬ (x < 0)) = some (g', P) from hf))
    exact lv_if_lt hx hb d ht (fun z => absurd z hP9) (fun _ => hG (sk_t h1) h2 H locs ls hP hD hS hL)
  · simp [mi_if] at hf
  · simp [mi_if] at hf
  · obtain ⟨rfl, rfl⟩ := Prod.mk.inj (Option.some.inj (show some (((M, tgt, gl, t) : mm_C), (x < 0)) = some (g', P) from hf))
    exact lv_if_lt hx hb d ht (fun _ => hG (sk_t h1) h2 H locs ls hP hD hS hL) (fun z => absurd hP9 z)
  · simp [mi_if] at hf
set_option maxHeartbeats 1000000 in
theorem ok_icmp_lt {off : Int} {tgt : Nat} (d : decode cc pc = .ok (.if_icmp .lt off, 3)) (ht : (pc : Int) + off = (tgt : Int)) : mm_Ok GW NW D cl tys ad cA K kd N l R own cc nL S pc (mi_cmp (fun x y => x < y) tgt) := by
  intro p e s m args below meth c A cells slots Q X o g g' P hpc hf hP9 hG h1 h2 H locs ls hP hD hS hL
  obtain ⟨M, pc', gl, st⟩ := g
  simp only at hpc
  subst hpc
  obtain ⟨⟨hx, hb, hml, hown⟩, hts, hnw, hK, hlay, hA, hlk, hcl, hsl⟩ := X
  simp only at h1 h2 hP hD hL
  obtain ⟨w, o2⟩ := o
  rcases w with _ | w <;> rcases st with _ | ⟨y | y, _ | ⟨x | x, t⟩⟩
  · simp [mi_cmp] at hf
  · simp [mi_cmp] at hf
  · obtain ⟨rfl, rfl⟩ := Prod.mk.inj (Option.some.inj (show some (((M, pc' + 3, gl, t) : mm_C), ¬ (x < y)) = some (g', P) from hf))
    exact lv_icmp_lt hx hb d ht (fun z => absurd z hP9) (fun _ => hG (sk_t (sk_t h1)) h2 H locs ls hP hD hS hL)
  · simp [mi_cmp] at hf
  · simp [mi_cmp] at hf
  · simp [mi_cmp] at hf
  · simp [mi_cmp] at hf
  · simp [mi_cmp] at hf
  · simp [mi_cmp] at hf
  · obtain ⟨rfl, rfl⟩ := Prod.mk.inj (Option.some.inj (show some (((M, tgt, gl, t) : mm_C), (x < y)) = some (g', P) from hf))
    exact lv_icmp_lt hx hb d ht (fun _ => hG (sk_t (sk_t h1)) h2 H locs ls hP hD hS hL) (fun z => absurd hP9 z)
  · simp [mi_cmp] at hf
  · simp [mi_cmp] at hf
  · simp [mi_cmp] at hf
  · simp [mi_cmp] at hf
set_option maxHeartbeats 1000000 in
theorem ok_if_ge {off : Int} {tgt : Nat} (d : decode cc pc = .ok (.ifCond .ge off, 3)) (ht : (pc : Int) + off = (tgt : Int)) : mm_Ok GW NW D cl tys ad cA K kd N l R own cc nL S pc (mi_if (fun x => 0 ≤ x) tgt) := by
  intro p e s m args below meth c A cells slots Q X o g g' P hpc hf hP9 hG h1 h2 H locs ls hP hD hS hL
  obtain ⟨M, pc', gl, st⟩ := g
  simp only at hpc
  subst hpc
  obtain ⟨⟨hx, hb, hml, hown⟩, hts, hnw, hK, hlay, hA, hlk, hcl, hsl⟩ := X
  simp only at h1 h2 hP hD hL
  obtain ⟨w, o2⟩ := o
  rcases w with _ | w <;> rcases st with _ | ⟨x | x, t⟩
  · simp [mi_if] at hf
  · obtain ⟨rfl, rfl⟩ := Prod.mk.inj (Option.some.inj (show some (((M, pc' + 3, gl, t) : mm_C), ¬ (0 ≤ x)) = some (g', P) from hf))
    exact lv_if_ge hx hb d ht (fun z => absurd z hP9) (fun _ => hG (sk_t h1) h2 H locs ls hP hD hS hL)
  · simp [mi_if] at hf
  · simp [mi_if] at hf
  · obtain ⟨rfl, rfl⟩ := Prod.mk.inj (Option.some.inj (show some (((M, tgt, gl, t) : mm_C), (0 ≤ x)) = some (g', P) from hf))
    exact lv_if_ge hx hb d ht (fun _ => hG (sk_t h1) h2 H locs ls hP hD hS hL) (fun z => absurd hP9 z)
  · simp [mi_if] at hf
set_option maxHeartbeats 1000000 in
theorem ok_icmp_ge {off : Int} {tgt : Nat} (d : decode cc pc = .ok (.if_icmp .ge off, 3)) (ht : (pc : Int) + off = (tgt : Int)) : mm_Ok GW NW D cl tys ad cA K kd N l R own cc nL S pc (mi_cmp (fun x y => y ≤ x) tgt) := by
  intro p e s m args below meth c A cells slots Q X o g g' P hpc hf hP9 hG h1 h2 H locs ls hP hD hS hL
  obtain ⟨M, pc', gl, st⟩ := g
  simp only at hpc
  subst hpc
  obtain ⟨⟨hx, hb, hml, hown⟩, hts, hnw, hK, hlay, hA, hlk, hcl, hsl⟩ := X
  simp only at h1 h2 hP hD hL
  obtain ⟨w, o2⟩ := o
  rcases w with _ | w <;> rcases st with _ | ⟨y | y, _ | ⟨x | x, t⟩⟩
  · simp [mi_cmp] at hf
  · simp [mi_cmp] at hf
  · obtain ⟨rfl, rfl⟩ := Prod.mk.inj (Option.some.inj (show some (((M, pc' + 3, gl, t) : mm_C), ¬ (y ≤ x)) = some (g', P) from hf))
    exact lv_icmp_ge hx hb d ht (fun z => absurd z hP9) (fun _ => hG (sk_t (sk_t h1)) h2 H locs ls hP hD hS hL)
  · simp [mi_cmp] at hf
  · simp [mi_cmp] at hf
  · simp [mi_cmp] at hf
  · simp [mi_cmp] at hf
  · simp [mi_cmp] at hf
  · simp [mi_cmp] at hf
  · obtain ⟨rfl, rfl⟩ := Prod.mk.inj (Option.some.inj (show some (((M, tgt, gl, t) : mm_C), (y ≤ x)) = some (g', P) from hf))
    exact lv_icmp_ge hx hb d ht (fun _ => hG (sk_t (sk_t h1)) h2 H locs ls hP hD hS hL) (fun z => absurd hP9 z)
  · simp [mi_cmp] at hf
  · simp [mi_cmp] at hf
  · simp [mi_cmp] at hf
  · simp [mi_cmp] at hf
set_option maxHeartbeats 1000000 in
theorem ok_if_gt {off : Int} {tgt : Nat} (d : decode cc pc = .ok (.ifCond .gt off, 3)) (ht : (pc : Int) + off = (tgt : Int)) : mm_Ok GW NW D cl tys ad cA K kd N l R own cc nL S pc (mi_if (fun x => 0 < x) tgt) := by
  intro p e s m args below meth c A cells slots Q X o g g' P hpc hf hP9 hG h1 h2 H locs ls hP hD hS hL
  obtain ⟨M, pc', gl, st⟩ := g
  simp only at hpc
  subst hpc
  obtain ⟨⟨hx, hb, hml, hown⟩, hts, hnw, hK, hlay, hA, hlk, hcl, hsl⟩ := X
  simp only at h1 h2 hP hD hL
  obtain ⟨w, o2⟩ := o
  rcases w with _ | w <;> rcases st with _ | ⟨x | x, t⟩
  · simp [mi_if] at hf
  · obtain ⟨rfl, rfl⟩ := Prod.mk.inj (Option.some.inj (show some (((M, pc' + 3, gl, t) : mm_C), ¬ (0 < x)) = some (g', P) from hf))
    exact lv_if_gt hx hb d ht (fun z => absurd z hP9) (fun _ => hG (sk_t h1) h2 H locs ls hP hD hS hL)
  · simp [mi_if] at hf
  · simp [mi_if] at hf
  · obtain ⟨rfl, rfl⟩ := Prod.mk.inj (Option.some.inj (show some (((M, tgt, gl, t) : mm_C), (0 < x)) = some (g', P) from hf))
    exact lv_if_gt hx hb d ht (fun _ => hG (sk_t h1) h2 H locs ls hP hD hS hL) (fun z => absurd hP9 z)
  · simp [mi_if] at hf
set_option maxHeartbeats 1000000 in
theorem ok_icmp_gt {off : Int} {tgt : Nat} (d : decode cc pc = .ok (.if_icmp .gt off, 3)) (ht : (pc : Int) + off = (tgt : Int)) : mm_Ok GW NW D cl tys ad cA K kd N l R own cc nL S pc (mi_cmp (fun x y => y < x) tgt) := by
  intro p e s m args below meth c A cells slots Q X o g g' P hpc hf hP9 hG h1 h2 H locs ls hP hD hS hL
  obtain ⟨M, pc', gl, st⟩ := g
  simp only at hpc
  subst hpc
  obtain ⟨⟨hx, hb, hml, hown⟩, hts, hnw, hK, hlay, hA, hlk, hcl, hsl⟩ := X
  simp only at h1 h2 hP hD hL
  obtain ⟨w, o2⟩ := o
  rcases w with _ | w <;> rcases st with _ | ⟨y | y, _ | ⟨x | x, t⟩⟩
  · simp [mi_cmp] at hf
  · simp [mi_cmp] at hf
  · obtain ⟨rfl, rfl⟩ := Prod.mk.inj (Option.some.inj (show some (((M, pc' + 3, gl, t) : mm_C), ¬ (y < x)) = some (g', P) from hf))
    exact lv_icmp_gt hx hb d ht (fun z => absurd z hP9) (fun _ => hG (sk_t (sk_t h1)) h2 H locs ls hP hD hS hL)
  · simp [mi_cmp] at hf
  · simp [mi_cmp] at hf
  · simp [mi_cmp] at hf
  · simp [mi_cmp] at hf
  · simp [mi_cmp] at hf
  · simp [mi_cmp] at hf
  · obtain ⟨rfl, rfl⟩ := Prod.mk.inj (Option.some.inj (show some (((M, tgt, gl, t) : mm_C), (y < x)) = some (g', P) from hf))
    exact lv_icmp_gt hx hb d ht (fun _ => hG (sk_t (sk_t h1)) h2 H locs ls hP hD hS hL) (fun z => absurd hP9 z)
  · simp [mi_cmp] at hf
  · simp [mi_cmp] at hf
  · simp [mi_cmp] at hf
  · simp [mi_cmp] at hf
set_option maxHeartbeats 1000000 in
theorem ok_if_le {off : Int} {tgt : Nat} (d : decode cc pc = .ok (.ifCond .le off, 3)) (ht : (pc : Int) + off = (tgt : Int)) : mm_Ok GW NW D cl tys ad cA K kd N l R own cc nL S pc (mi_if (fun x => x ≤ 0) tgt) := by
  intro p e s m args below meth c A cells slots Q X o g g' P hpc hf hP9 hG h1 h2 H locs ls hP hD hS hL
  obtain ⟨M, pc', gl, st⟩ := g
  simp only at hpc
  subst hpc
  obtain ⟨⟨hx, hb, hml, hown⟩, hts, hnw, hK, hlay, hA, hlk, hcl, hsl⟩ := X
  simp only at h1 h2 hP hD hL
  obtain ⟨w, o2⟩ := o
  rcases w with _ | w <;> rcases st with _ | ⟨x | x, t⟩
  · simp [mi_if] at hf
  · obtain ⟨rfl, rfl⟩ := Prod.mk.inj (Option.some.inj (show some (((M, pc' + 3, gl, t) : mm_C), ¬ (x ≤ 0)) = some (g', P) from hf))
    exact lv_if_le hx hb d ht (fun z => absurd z hP9) (fun _ => hG (sk_t h1) h2 H locs ls hP hD hS hL)
  · simp [mi_if] at hf
  · simp [mi_if] at hf
  · obtain ⟨rfl, rfl⟩ := Prod.mk.inj (Option.some.inj (show some (((M, tgt, gl, t) : mm_C), (x ≤ 0)) = some (g', P) from hf))
    exact lv_if_le hx hb d ht (fun _ => hG (sk_t h1) h2 H locs ls hP hD hS hL) (fun z => absurd hP9 z)
  · simp [mi_if] at hf
set_option maxHeartbeats 1000000 in
theorem ok_icmp_le {off : Int} {tgt : Nat} (d : decode cc pc = .ok (.if_icmp .le off, 3)) (ht : (pc : Int) + off = (tgt : Int)) : mm_Ok GW NW D cl tys ad cA K kd N l R own cc nL S pc (mi_cmp (fun x y => x ≤ y) tgt) := by
  intro p e s m args below meth c A cells slots Q X o g g' P hpc hf hP9 hG h1 h2 H locs ls hP hD hS hL
  obtain ⟨M, pc', gl, st⟩ := g
  simp only at hpc
  subst hpc
  obtain ⟨⟨hx, hb, hml, hown⟩, hts, hnw, hK, hlay, hA, hlk, hcl, hsl⟩ := X
  simp only at h1 h2 hP hD hL
  obtain ⟨w, o2⟩ := o
  rcases w with _ | w <;> rcases st with _ | ⟨y | y, _ | ⟨x | x, t⟩⟩
  · simp [mi_cmp] at hf
  · simp [mi_cmp] at hf
  · obtain ⟨rfl, rfl⟩ := Prod.mk.inj (Option.some.inj (show some (((M, pc' + 3, gl, t) : mm_C), ¬ (x ≤ y)) = some (g', P) from hf))
    exact lv_icmp_le hx hb d ht (fun z => absurd z hP9) (fun _ => hG (sk_t (sk_t h1)) h2 H locs ls hP hD hS hL)
  · simp [mi_cmp] at hf
  · simp [mi_cmp] at hf
  · simp [mi_cmp] at hf
  · simp [mi_cmp] at hf
  · simp [mi_cmp] at hf
  · simp [mi_cmp] at hf
  · obtain ⟨rfl, rfl⟩ := Prod.mk.inj (Option.some.inj (show some (((M, tgt, gl, t) : mm_C), (x ≤ y)) = some (g', P) from hf))
    exact lv_icmp_le hx hb d ht (fun _ => hG (sk_t (sk_t h1)) h2 H locs ls hP hD hS hL) (fun z => absurd hP9 z)
  · simp [mi_cmp] at hf
  · simp [mi_cmp] at hf
  · simp [mi_cmp] at hf
  · simp [mi_cmp] at hf
set_option maxHeartbeats 1000000 in
theorem ok_tsw {dflt lo hi : Int} {offs : Array Int} {len dt : Nat} {tgts : List Nat} (d : decode cc pc = .ok (.tableswitch dflt lo hi offs, len)) (hd : (pc : Int) + dflt = (dt : Int)) (hn : hi = lo + (tgts.length : Int) - 1) (ho : offs.toList.map (fun q => (pc : Int) + q) = tgts.map (fun q : Nat => (q : Int))) : mm_Ok GW NW D cl tys ad cA K kd N l R own cc nL S pc (mi_tsw lo hi tgts dt) := by
  intro p e s m args below meth c A cells slots Q X o g g' P hpc hf hP9 hG h1 h2 H locs ls hP hD hS hL
  obtain ⟨M, pc', gl, st⟩ := g
  simp only at hpc
  subst hpc
  obtain ⟨⟨hx, hb, hml, hown⟩, hts, hnw, hK, hlay, hA, hlk, hcl, hsl⟩ := X
  simp only at h1 h2 hP hD hL
  obtain ⟨w, o2⟩ := o
  rcases w with _ | w <;> rcases st with _ | ⟨x | x, t⟩
  · simp [mi_tsw] at hf
  · obtain ⟨rfl, rfl⟩ := Prod.mk.inj (Option.some.inj (show some (((M, dt, gl, t) : mm_C), (x.toInt < lo ∨ hi < x.toInt)) = some (g', P) from hf))
    exact lv_tableOut hx hb d hP9 hd (hG (sk_t h1) h2 H locs ls hP hD hS hL)
  · simp [mi_tsw] at hf
  · simp [mi_tsw] at hf
  · cases hg : tgts[w]? with
    | none => simp [mi_tsw, hg] at hf
    | some tg =>
      obtain ⟨rfl, rfl⟩ := Prod.mk.inj (Option.some.inj (show some (((M, tg, gl, t) : mm_C), (x.toInt = lo + w)) = some (g', P) from by rw [← hf]; simp [mi_tsw, hg]))
      have hlt := (List.getElem?_eq_some_iff.mp hg).1
      have h3 : (offs.toList.map (fun q => (pc' : Int) + q))[w]? = some (tg : Int) := by rw [ho, List.getElem?_map, hg]; rfl
      rw [List.getElem?_map] at h3
      cases h4 : offs.toList[w]? with
      | none => rw [h4] at h3; simp at h3
      | some off =>
        rw [h4] at h3
        have h5 : (pc' : Int) + off = (tg : Int) := by simpa using h3
        have h6 : x.toInt = lo + w := hP9
        exact lv_tableIn (tgt := tg) hx hb d (by omega) (by omega) (off := off) (by rw [show (x.toInt - lo).toNat = w by omega, ← Array.getElem?_toList]; exact h4) h5 (hG (sk_t h1) h2 H locs ls hP hD hS hL)
  · simp [mi_tsw] at hf
set_option maxHeartbeats 1000000 in
theorem ok_getf {ci k idx Nf : Nat} {C : String} {T : u_T} {F : List (Option (Nat × Nat))} (hc : cl[ci]? = some (C, T, Nf)) (hin : ∀ w ∈ u_ws C T Nf, w ∈ GW) (hk : k < Nf) (hl : Cond.fieldLink own idx (T k).1 (T k).2.1 (T k).2.2.1 ∈ GW) (hF : K ci = .inl F) (hFk : F[k]? = some none) (d : decode cc pc = .ok (.getfield idx, 3)) : mm_Ok GW NW D cl tys ad cA K kd N l R own cc nL S pc (mi_getf ci k) := by
  intro p e s m args below meth c A cells slots Q X o g g' P hpc hf hP9 hG h1 h2 H locs ls hP hD hS hL
  obtain ⟨M, pc', gl, st⟩ := g
  simp only at hpc
  subst hpc
  obtain ⟨⟨hx, hb, hml, hown⟩, hts, hnw, hK, hlay, hA, hlk, hcl, hsl⟩ := X
  simp only at h1 h2 hP hD hL
  rcases st with _ | ⟨y | ⟨c0, i⟩, t⟩
  · simp [mi_getf] at hf
  · simp [mi_getf] at hf
  · by_cases hci : c0 = ci
    · subst hci
      obtain ⟨rfl, rfl⟩ := Prod.mk.inj (Option.some.inj (show some (((M, pc' + 3, gl, .inl (M i k) :: t) : mm_C), True) = some (g', P) from by rw [← hf]; simp [mi_getf]))
      obtain ⟨hi, hkd⟩ := sk_h h1
      obtain ⟨q0, hq0, he⟩ := mm_W_get (ad := ad) (cA := cA) (K := K) (kd := kd) (M := M) hi
      rw [hkd, mm_E_obj hF] at he
      have hv := mm_fs_int (ad := ad) (i := i) (r := M i) F 0 k hFk
      rw [Nat.zero_add] at hv
      exact va_get (own := own) (ref := (T k).1) (C := C) (T := T) (N := Nf) (ci := c0) hx hb hts hin hown hK hP q0 he hc k hk (hts _ hl) (fun _ h => h) hv d (hG (sk_i (sk_t h1)) h2 H locs ls hP hD hS hL)
    · simp [mi_getf, hci] at hf
set_option maxHeartbeats 1000000 in
theorem ok_getr {ck off : Nat} {ci k idx Nf : Nat} {C : String} {T : u_T} {F : List (Option (Nat × Nat))} (hc : cl[ci]? = some (C, T, Nf)) (hin : ∀ w ∈ u_ws C T Nf, w ∈ GW) (hk : k < Nf) (hl : Cond.fieldLink own idx (T k).1 (T k).2.1 (T k).2.2.1 ∈ GW) (hF : K ci = .inl F) (hFk : F[k]? = some (some (ck, off))) (d : decode cc pc = .ok (.getfield idx, 3)) : mm_Ok GW NW D cl tys ad cA K kd N l R own cc nL S pc (mi_getr ci ck off) := by
  intro p e s m args below meth c A cells slots Q X o g g' P hpc hf hP9 hG h1 h2 H locs ls hP hD hS hL
  obtain ⟨M, pc', gl, st⟩ := g
  simp only at hpc
  subst hpc
  obtain ⟨⟨hx, hb, hml, hown⟩, hts, hnw, hK, hlay, hA, hlk, hcl, hsl⟩ := X
  simp only at h1 h2 hP hD hL
  rcases st with _ | ⟨y | ⟨c0, i⟩, t⟩
  · simp [mi_getr] at hf
  · simp [mi_getr] at hf
  · by_cases hci : c0 = ci
    · subst hci
      obtain ⟨rfl, rfl⟩ := Prod.mk.inj (Option.some.inj (show some (((M, pc' + 3, gl, .inr (ck, i + off) :: t) : mm_C), True) = some (g', P) from by rw [← hf]; simp [mi_getr]))
      obtain ⟨hi, hkd⟩ := sk_h h1
      obtain ⟨q0, hq0, he⟩ := mm_W_get (ad := ad) (cA := cA) (K := K) (kd := kd) (M := M) hi
      rw [hkd, mm_E_obj hF] at he
      have hv := mm_fs_ref (ad := ad) (i := i) (r := M i) F 0 k hFk
      have hl9 := hlay.2 i hi
      rw [hkd, hF] at hl9
      exact va_get (own := own) (ref := (T k).1) (C := C) (T := T) (N := Nf) (ci := c0) hx hb hts hin hown hK hP q0 he hc k hk (hts _ hl) (fun _ h => h) hv d (hG (sk_r (hl9 k ck off hFk) (sk_t h1)) h2 H locs ls hP hD hS hL)
    · simp [mi_getr, hci] at hf
set_option maxHeartbeats 1000000 in
theorem ok_putf {ci k idx Nf : Nat} {C : String} {T : u_T} {F : List (Option (Nat × Nat))} (hc : cl[ci]? = some (C, T, Nf)) (hin : ∀ w ∈ u_ws C T Nf, w ∈ GW) (hk : k < Nf) (hl : Cond.fieldLink own idx (T k).1 (T k).2.1 (T k).2.2.1 ∈ GW) (hF : K ci = .inl F) (ty0 : Nat → FieldType) (hty : ∀ k, k < Nf → parseFieldDescriptor (T k).2.2.1 = some (ty0 k)) (hnm : ∀ a, a < Nf → ∀ b, b < Nf → a ≠ b → (T a).2.1 ≠ (T b).2.1) (hfin : (T k).2.2.2 = false) (hd : parseFieldDescriptor (T k).2.2.1 = some .int) (hFk : F[k]? = some none) (d : decode cc pc = .ok (.putfield idx, 3)) : mm_Ok GW NW D cl tys ad cA K kd N l R own cc nL S pc (mi_putf ci k) := by
  intro p e s m args below meth c A cells slots Q X o g g' P hpc hf hP9 hG h1 h2 H locs ls hP hD hS hL
  obtain ⟨M, pc', gl, st⟩ := g
  simp only at hpc
  subst hpc
  obtain ⟨⟨hx, hb, hml, hown⟩, hts, hnw, hK, hlay, hA, hlk, hcl, hsl⟩ := X
  simp only at h1 h2 hP hD hL
  rcases st with _ | ⟨x | x, _ | ⟨y | ⟨c0, i⟩, t⟩⟩
  · simp [mi_putf] at hf
  · simp [mi_putf] at hf
  · simp [mi_putf] at hf
  · by_cases hci : c0 = ci
    · subst hci
      obtain ⟨rfl, rfl⟩ := Prod.mk.inj (Option.some.inj (show some (((mm_up M i k x, pc' + 3, gl, t) : mm_C), True) = some (g', P) from by rw [← hf]; simp [mi_putf]))
      obtain ⟨hi, hkd⟩ := sk_h (sk_t h1)
      obtain ⟨q0, hq0, he⟩ := mm_W_get (ad := ad) (cA := cA) (K := K) (kd := kd) (M := M) hi
      rw [hkd, mm_E_obj hF] at he
      have hset : (mm_W ad cA K kd N M).set q0 (ad i, .inr (c0, (mm_fs ad i (M i) 0 F).set k (.int x))) = mm_W ad cA K kd N (mm_up M i k x) := by
        refine mm_W_set hlay.1 hq0 ?_ (fun j hj => mm_up_i M k x hj)
        rw [hkd, mm_up_row, mm_E_obj hF, mm_fs_set F 0 k hFk, Nat.zero_add]
      refine va_put (own := own) (ref := (T k).1) (C := C) (T := T) (N := Nf) (ci := c0) (v := .int x) (ty := .int) hx hb hts hin ty0 hty hnm hown hK hP hD hS q0 he hc k hk (hts _ hl) (fun _ h => h) hfin hd rfl rfl (by rw [mm_fs_len]; exact (List.getElem?_eq_some_iff.mp hFk).1) d (fun H1 locs1 hP1 hD1 hS1 => ?_)
      rw [hset] at hP1 hD1
      exact hG (sk_t (sk_t h1)) h2 H1 locs1 ls hP1 hD1 hS1 hL
    · simp [mi_putf, hci] at hf
  · simp [mi_putf] at hf
  · simp [mi_putf] at hf
  · simp [mi_putf] at hf
set_option maxHeartbeats 1000000 in
theorem ok_putz {ci k idx Nf : Nat} {C : String} {T : u_T} {F : List (Option (Nat × Nat))} (hc : cl[ci]? = some (C, T, Nf)) (hin : ∀ w ∈ u_ws C T Nf, w ∈ GW) (hk : k < Nf) (hl : Cond.fieldLink own idx (T k).1 (T k).2.1 (T k).2.2.1 ∈ GW) (hF : K ci = .inl F) (ty0 : Nat → FieldType) (hty : ∀ k, k < Nf → parseFieldDescriptor (T k).2.2.1 = some (ty0 k)) (hnm : ∀ a, a < Nf → ∀ b, b < Nf → a ≠ b → (T a).2.1 ≠ (T b).2.1) (hfin : (T k).2.2.2 = false) (hd : parseFieldDescriptor (T k).2.2.1 = some .boolean) (hFk : F[k]? = some none) (d : decode cc pc = .ok (.putfield idx, 3)) : mm_Ok GW NW D cl tys ad cA K kd N l R own cc nL S pc (mi_putz ci k) := by
  intro p e s m args below meth c A cells slots Q X o g g' P hpc hf hP9 hG h1 h2 H locs ls hP hD hS hL
  obtain ⟨M, pc', gl, st⟩ := g
  simp only at hpc
  subst hpc
  obtain ⟨⟨hx, hb, hml, hown⟩, hts, hnw, hK, hlay, hA, hlk, hcl, hsl⟩ := X
  simp only at h1 h2 hP hD hL
  rcases st with _ | ⟨x | x, _ | ⟨y | ⟨c0, i⟩, t⟩⟩
  · simp [mi_putz] at hf
  · simp [mi_putz] at hf
  · simp [mi_putz] at hf
  · by_cases hci : c0 = ci
    · subst hci
      obtain ⟨rfl, rfl⟩ := Prod.mk.inj (Option.some.inj (show some (((mm_up M i k x, pc' + 3, gl, t) : mm_C), x = 0 ∨ x = 1) = some (g', P) from by rw [← hf]; simp [mi_putz]))
      obtain ⟨hi, hkd⟩ := sk_h (sk_t h1)
      obtain ⟨q0, hq0, he⟩ := mm_W_get (ad := ad) (cA := cA) (K := K) (kd := kd) (M := M) hi
      rw [hkd, mm_E_obj hF] at he
      have hset : (mm_W ad cA K kd N M).set q0 (ad i, .inr (c0, (mm_fs ad i (M i) 0 F).set k (.int x))) = mm_W ad cA K kd N (mm_up M i k x) := by
        refine mm_W_set hlay.1 hq0 ?_ (fun j hj => mm_up_i M k x hj)
        rw [hkd, mm_up_row, mm_E_obj hF, mm_fs_set F 0 k hFk, Nat.zero_add]
      refine va_put (own := own) (ref := (T k).1) (C := C) (T := T) (N := Nf) (ci := c0) (v := .int x) (ty := .boolean) hx hb hts hin ty0 hty hnm hown hK hP hD hS q0 he hc k hk (hts _ hl) (fun _ h => h) hfin hd (by rcases hP9 with rfl | rfl <;> rfl) (by rcases hP9 with rfl | rfl <;> rfl) (by rw [mm_fs_len]; exact (List.getElem?_eq_some_iff.mp hFk).1) d (fun H1 locs1 hP1 hD1 hS1 => ?_)
      rw [hset] at hP1 hD1
      exact hG (sk_t (sk_t h1)) h2 H1 locs1 ls hP1 hD1 hS1 hL
    · simp [mi_putz, hci] at hf
  · simp [mi_putz] at hf
  · simp [mi_putz] at hf
  · simp [mi_putz] at hf
set_option maxHeartbeats 1000000 in
theorem ok_iald {ck t9 n : Nat} (hn : n < 2 ^ 31) (hF : K ck = .inr (.inl (t9, n))) (ht : tys[t9]? = some (cA t9, .int)) (d : decode cc pc = .ok (.iaload, 1)) : mm_Ok GW NW D cl tys ad cA K kd N l R own cc nL S pc (mi_ald ck n) := by
  intro p e s m args below meth c A cells slots Q X o g g' P hpc hf hP9 hG h1 h2 H locs ls hP hD hS hL
  obtain ⟨M, pc', gl, st⟩ := g
  simp only at hpc
  subst hpc
  obtain ⟨⟨hx, hb, hml, hown⟩, hts, hnw, hK, hlay, hA, hlk, hcl, hsl⟩ := X
  simp only at h1 h2 hP hD hL
  rcases st with _ | ⟨x | x, _ | ⟨y | ⟨c0, i⟩, t⟩⟩
  · simp [mi_ald] at hf
  · simp [mi_ald] at hf
  · simp [mi_ald] at hf
  · by_cases hci : c0 = ck
    · subst hci
      obtain ⟨rfl, rfl⟩ := Prod.mk.inj (Option.some.inj (show some (((M, pc' + 1, gl, .inl (M i o.1) :: t) : mm_C), x = nI o.1 ∧ o.1 < n) = some (g', P) from by rw [← hf]; simp [mi_ald]))
      obtain ⟨rfl, hj⟩ := hP9
      have hcl9 := nI_clamp (n := o.1) (by omega)
      obtain ⟨hi, hkd⟩ := sk_h (sk_t h1)
      obtain ⟨q0, hq0, he⟩ := mm_W_get (ad := ad) (cA := cA) (K := K) (kd := kd) (M := M) hi
      rw [hkd, mm_E_prim hF] at he
      refine va_iald hx hb hK hP q0 t9 he ht (vp_in_nI hj hn) d ?_
      rw [hcl9]
      exact hG (sk_i (sk_t (sk_t h1))) h2 H locs ls hP hD hS hL
    · simp [mi_ald, hci] at hf
  · simp [mi_ald] at hf
  · simp [mi_ald] at hf
  · simp [mi_ald] at hf
set_option maxHeartbeats 1000000 in
theorem ok_zald {ck t9 n : Nat} (hn : n < 2 ^ 31) (hF : K ck = .inr (.inl (t9, n))) (ht : tys[t9]? = some (cA t9, .boolean)) (d : decode cc pc = .ok (.baload, 1)) : mm_Ok GW NW D cl tys ad cA K kd N l R own cc nL S pc (mi_ald ck n) := by
  intro p e s m args below meth c A cells slots Q X o g g' P hpc hf hP9 hG h1 h2 H locs ls hP hD hS hL
  obtain ⟨M, pc', gl, st⟩ := g
  simp only at hpc
  subst hpc
  obtain ⟨⟨hx, hb, hml, hown⟩, hts, hnw, hK, hlay, hA, hlk, hcl, hsl⟩ := X
  simp only at h1 h2 hP hD hL
  rcases st with _ | ⟨x | x, _ | ⟨y | ⟨c0, i⟩, t⟩⟩
  · simp [mi_ald] at hf
  · simp [mi_ald] at hf
  · simp [mi_ald] at hf
  · by_cases hci : c0 = ck
    · subst hci
      obtain ⟨rfl, rfl⟩ := Prod.mk.inj (Option.some.inj (show some (((M, pc' + 1, gl, .inl (M i o.1) :: t) : mm_C), x = nI o.1 ∧ o.1 < n) = some (g', P) from by rw [← hf]; simp [mi_ald]))
      obtain ⟨rfl, hj⟩ := hP9
      have hcl9 := nI_clamp (n := o.1) (by omega)
      obtain ⟨hi, hkd⟩ := sk_h (sk_t h1)
      obtain ⟨q0, hq0, he⟩ := mm_W_get (ad := ad) (cA := cA) (K := K) (kd := kd) (M := M) hi
      rw [hkd, mm_E_prim hF] at he
      refine va_zald hx hb hK hP q0 t9 he ht (vp_in_nI hj hn) d ?_
      rw [hcl9]
      exact hG (sk_i (sk_t (sk_t h1))) h2 H locs ls hP hD hS hL
    · simp [mi_ald, hci] at hf
  · simp [mi_ald] at hf
  · simp [mi_ald] at hf
  · simp [mi_ald] at hf
set_option maxHeartbeats 1000000 in
theorem ok_iast {ck t9 n : Nat} (hn : n < 2 ^ 31) (hF : K ck = .inr (.inl (t9, n))) (ht : tys[t9]? = some (cA t9, .int)) (d : decode cc pc = .ok (.iastore, 1)) : mm_Ok GW NW D cl tys ad cA K kd N l R own cc nL S pc (mi_ast ck n) := by
  intro p e s m args below meth c A cells slots Q X o g g' P hpc hf hP9 hG h1 h2 H locs ls hP hD hS hL
  obtain ⟨M, pc', gl, st⟩ := g
  simp only at hpc
  subst hpc
  obtain ⟨⟨hx, hb, hml, hown⟩, hts, hnw, hK, hlay, hA, hlk, hcl, hsl⟩ := X
  simp only at h1 h2 hP hD hL
  rcases st with _ | ⟨v | v, _ | ⟨x | x, _ | ⟨y | ⟨c0, i⟩, t⟩⟩⟩
  · simp [mi_ast] at hf
  · simp [mi_ast] at hf
  · simp [mi_ast] at hf
  · simp [mi_ast] at hf
  · by_cases hci : c0 = ck
    · subst hci
      obtain ⟨rfl, rfl⟩ := Prod.mk.inj (Option.some.inj (show some (((mm_up M i o.1 v, pc' + 1, gl, t) : mm_C), x = nI o.1 ∧ o.1 < n) = some (g', P) from by rw [← hf]; simp [mi_ast]))
      have hj := hP9
      obtain ⟨rfl, hj⟩ := hj
      have hcl9 := nI_clamp (n := o.1) (by omega)
      obtain ⟨hi, hkd⟩ := sk_h (sk_t (sk_t h1))
      obtain ⟨q0, hq0, he⟩ := mm_W_get (ad := ad) (cA := cA) (K := K) (kd := kd) (M := M) hi
      rw [hkd, mm_E_prim hF] at he
      have hset : (mm_W ad cA K kd N M).set q0 (ad i, .inl (cA t9, n, .inl (upd (M i) (nI o.1).toNatClampNeg v))) = mm_W ad cA K kd N (mm_up M i o.1 v) := by
        refine mm_W_set hlay.1 hq0 ?_ (fun j hj => mm_up_i M _ v hj)
        rw [hkd, mm_up_row, mm_E_prim hF, hcl9]
      refine va_iast hx hb hK hP hD hS q0 t9 he ht (vp_in_nI hj hn) d (fun H1 locs1 hP1 hD1 hS1 => ?_)
      rw [hset] at hP1 hD1
      exact hG (sk_t (sk_t (sk_t h1))) h2 H1 locs1 ls hP1 hD1 hS1 hL
    · simp [mi_ast, hci] at hf
  · simp [mi_ast] at hf
  · simp [mi_ast] at hf
  · simp [mi_ast] at hf
  · simp [mi_ast] at hf
  · simp [mi_ast] at hf
  · simp [mi_ast] at hf
  · simp [mi_ast] at hf
  · simp [mi_ast] at hf
  · simp [mi_ast] at hf
  · simp [mi_ast] at hf
set_option maxHeartbeats 1000000 in
theorem ok_zast {ck t9 n : Nat} (hn : n < 2 ^ 31) (hF : K ck = .inr (.inl (t9, n))) (ht : tys[t9]? = some (cA t9, .boolean)) (d : decode cc pc = .ok (.bastore, 1)) : mm_Ok GW NW D cl tys ad cA K kd N l R own cc nL S pc (mi_zst ck n) := by
  intro p e s m args below meth c A cells slots Q X o g g' P hpc hf hP9 hG h1 h2 H locs ls hP hD hS hL
  obtain ⟨M, pc', gl, st⟩ := g
  simp only at hpc
  subst hpc
  obtain ⟨⟨hx, hb, hml, hown⟩, hts, hnw, hK, hlay, hA, hlk, hcl, hsl⟩ := X
  simp only at h1 h2 hP hD hL
  rcases st with _ | ⟨v | v, _ | ⟨x | x, _ | ⟨y | ⟨c0, i⟩, t⟩⟩⟩
  · simp [mi_zst] at hf
  · simp [mi_zst] at hf
  · simp [mi_zst] at hf
  · simp [mi_zst] at hf
  · by_cases hci : c0 = ck
    · subst hci
      obtain ⟨rfl, rfl⟩ := Prod.mk.inj (Option.some.inj (show some (((mm_up M i o.1 v, pc' + 1, gl, t) : mm_C), (x = nI o.1 ∧ o.1 < n) ∧ (v = 0 ∨ v = 1)) = some (g', P) from by rw [← hf]; simp [mi_zst]))
      have hj := hP9.1
      obtain ⟨rfl, hj⟩ := hj
      have hcl9 := nI_clamp (n := o.1) (by omega)
      obtain ⟨hi, hkd⟩ := sk_h (sk_t (sk_t h1))
      obtain ⟨q0, hq0, he⟩ := mm_W_get (ad := ad) (cA := cA) (K := K) (kd := kd) (M := M) hi
      rw [hkd, mm_E_prim hF] at he
      have hset : (mm_W ad cA K kd N M).set q0 (ad i, .inl (cA t9, n, .inl (upd (M i) (nI o.1).toNatClampNeg (vp_nar .boolean v)))) = mm_W ad cA K kd N (mm_up M i o.1 v) := by
        refine mm_W_set hlay.1 hq0 ?_ (fun j hj => mm_up_i M _ v hj)
        rw [hkd, mm_up_row, mm_E_prim hF, hcl9]
        rcases hP9.2 with rfl | rfl <;> rfl
      refine va_zast hx hb hK hP hD hS q0 t9 he ht (vp_in_nI hj hn) d (fun H1 locs1 hP1 hD1 hS1 => ?_)
      rw [hset] at hP1 hD1
      exact hG (sk_t (sk_t (sk_t h1))) h2 H1 locs1 ls hP1 hD1 hS1 hL
    · simp [mi_zst, hci] at hf
  · simp [mi_zst] at hf
  · simp [mi_zst] at hf
  · simp [mi_zst] at hf
  · simp [mi_zst] at hf
  · simp [mi_zst] at hf
  · simp [mi_zst] at hf
  · simp [mi_zst] at hf
  · simp [mi_zst] at hf
  · simp [mi_zst] at hf
  · simp [mi_zst] at hf
set_option maxHeartbeats 1000000 in
theorem ok_aald {ck t9 n ek off : Nat} {C : String} (hn : n < 2 ^ 31) (hF : K ck = .inr (.inr (t9, n, ek, off))) (ht : tys[t9]? = some (cA t9, .object C)) (d : decode cc pc = .ok (.aaload, 1)) : mm_Ok GW NW D cl tys ad cA K kd N l R own cc nL S pc (mi_aald ck n ek off) := by
  intro p e s m args below meth c A cells slots Q X o g g' P hpc hf hP9 hG h1 h2 H locs ls hP hD hS hL
  obtain ⟨M, pc', gl, st⟩ := g
  simp only at hpc
  subst hpc
  obtain ⟨⟨hx, hb, hml, hown⟩, hts, hnw, hK, hlay, hA, hlk, hcl, hsl⟩ := X
  simp only at h1 h2 hP hD hL
  rcases st with _ | ⟨x | x, _ | ⟨y | ⟨c0, i⟩, t⟩⟩
  · simp [mi_aald] at hf
  · simp [mi_aald] at hf
  · simp [mi_aald] at hf
  · by_cases hci : c0 = ck
    · subst hci
      obtain ⟨rfl, rfl⟩ := Prod.mk.inj (Option.some.inj (show some (((M, pc' + 1, gl, .inr (ek, i + off + 32 * o.1) :: t) : mm_C), x = nI o.1 ∧ o.1 < n) = some (g', P) from by rw [← hf]; simp [mi_aald]))
      obtain ⟨rfl, hj⟩ := hP9
      have hcl9 := nI_clamp (n := o.1) (by omega)
      obtain ⟨hi, hkd⟩ := sk_h (sk_t h1)
      obtain ⟨q0, hq0, he⟩ := mm_W_get (ad := ad) (cA := cA) (K := K) (kd := kd) (M := M) hi
      rw [hkd, mm_E_refs hF] at he
      have hl9 := hlay.2 i hi
      rw [hkd, hF] at hl9
      refine va_aldq hx hb hK hP q0 t9 he ht (vp_in_nI hj hn) d ?_
      rw [hcl9]
      exact hG (sk_r (hl9 _ hj) (sk_t (sk_t h1))) h2 H locs ls hP hD hS hL
    · simp [mi_aald, hci] at hf
  · simp [mi_aald] at hf
  · simp [mi_aald] at hf
  · simp [mi_aald] at hf
set_option maxHeartbeats 1000000 in
theorem ok_alen {ck t9 n : Nat} {ty : FieldType} (hF : K ck = .inr (.inl (t9, n))) (ht : tys[t9]? = some (cA t9, ty)) (d : decode cc pc = .ok (.arraylength, 1)) : mm_Ok GW NW D cl tys ad cA K kd N l R own cc nL S pc (mi_alen ck n) := by
  intro p e s m args below meth c A cells slots Q X o g g' P hpc hf hP9 hG h1 h2 H locs ls hP hD hS hL
  obtain ⟨M, pc', gl, st⟩ := g
  simp only at hpc
  subst hpc
  obtain ⟨⟨hx, hb, hml, hown⟩, hts, hnw, hK, hlay, hA, hlk, hcl, hsl⟩ := X
  simp only at h1 h2 hP hD hL
  rcases st with _ | ⟨y | ⟨c0, i⟩, t⟩
  · simp [mi_alen] at hf
  · simp [mi_alen] at hf
  · by_cases hci : c0 = ck
    · subst hci
      obtain ⟨rfl, rfl⟩ := Prod.mk.inj (Option.some.inj (show some (((M, pc' + 1, gl, .inl (nI n) :: t) : mm_C), True) = some (g', P) from by rw [← hf]; simp [mi_alen]))
      obtain ⟨hi, hkd⟩ := sk_h h1
      obtain ⟨q0, hq0, he⟩ := mm_W_get (ad := ad) (cA := cA) (K := K) (kd := kd) (M := M) hi
      rw [hkd, mm_E_prim hF] at he
      exact va_alen hx hb hK hP q0 t9 he ht rfl d (hG (sk_i (sk_t h1)) h2 H locs ls hP hD hS hL)
    · simp [mi_alen, hci] at hf
set_option maxHeartbeats 1000000 in
theorem ok_copy {idx ck t9 n9 : Nat} (hn : n9 < 2 ^ 31) (hF : K ck = .inr (.inl (t9, n9))) (ht : tys[t9]? = some (cA t9, .int)) (w1 : Cond.methodLink own idx arraycopyName ∈ GW) (w2 : Cond.native arraycopyName ∈ GW) (w3 : Cond.static arraycopyName ∈ GW) (w4 : Cond.initialized "java/lang/System" ∈ GW) (hR : 1 ≤ R.frames ∧ 30 ≤ R.locals) (d : decode cc pc = .ok (.invokestatic idx, 3)) : mm_Ok GW NW D cl tys ad cA K kd N l R own cc nL S pc (mi_copy ck n9) := by
  intro p e s m args below meth c A cells slots Q X o g g' P hpc hf hP9 hG h1 h2 H locs ls hP hD hS hL
  obtain ⟨M, pc', gl, st⟩ := g
  simp only at hpc
  subst hpc
  obtain ⟨⟨hx, hb, hml, hown⟩, hts, hnw, hK, hlay, hA, hlk, hcl, hsl⟩ := X
  simp only at h1 h2 hP hD hL
  match st, hf, h1 with
  | .inl n :: .inl dp :: .inr (c1, i1) :: .inl sp :: .inr (c0, i0) :: t, hf, h1 =>
    by_cases hci : c0 = ck ∧ c1 = ck
    · obtain ⟨rfl, rfl⟩ := hci
      obtain ⟨rfl, rfl⟩ := Prod.mk.inj (Option.some.inj (show some (((mm_cp M i0 i1 o.1, pc' + 3, gl, t) : mm_C), (sp = 0 ∧ dp = 0 ∧ n = nI o.1 ∧ o.1 ≤ n9 ∧ t.length ≤ 8)) = some (g', P) from by rw [← hf]; simp [mi_copy]))
      obtain ⟨rfl, rfl, rfl, hj, hl9⟩ := hP9
      have hcl9 := nI_clamp (n := o.1) (by omega)
      have h0 : (0 : Int32).toNatClampNeg = 0 := by decide
      obtain ⟨hi0, hkd0⟩ := sk_h (sk_t (sk_t (sk_t (sk_t h1))))
      obtain ⟨hi1, hkd1⟩ := sk_h (sk_t (sk_t h1))
      obtain ⟨q0, hq0, he0⟩ := mm_W_get (ad := ad) (cA := cA) (K := K) (kd := kd) (M := M) hi0
      rw [hkd0, mm_E_prim hF] at he0
      obtain ⟨q1, hq1, he1⟩ := mm_W_get (ad := ad) (cA := cA) (K := K) (kd := kd) (M := M) hi1
      rw [hkd1, mm_E_prim hF] at he1
      have hsum : ((t.map (mm_v ad)).map fun v => v.category).sum = t.length := mm_sum t
      have hset : (mm_W ad cA K kd N M).set q1 (ad i1, .inl (cA t9, n9, .inl (va_cpy (M i0) (M i1) (0 : Int32).toNatClampNeg (0 : Int32).toNatClampNeg (nI o.1).toNatClampNeg))) = mm_W ad cA K kd N (mm_cp M i0 i1 o.1) := by
        refine mm_W_set hlay.1 hq1 ?_ (fun j hj => mm_cp_i M i0 o.1 hj)
        rw [hkd1, mm_E_prim hF, hcl9, h0, mm_cp_row]
      refine va_copyi hx hb (by rw [hml]; exact hL.1.symm) hown (hts _ w1) (hts _ w2) (hts _ w3) (hts _ w4) hK hP hD hS q0 q1 t9 t9 he0 he1 ht ht rfl (by decide) (by decide) (nI_pos (by omega)) (by rw [hcl9, h0]; omega) (by rw [hcl9, h0]; omega) (fun _ _ => rfl) hR.1 (by rw [hsum, show nativeFrameWords "java/lang/System" "arraycopy" 5 = 7 by decide]; omega) d (fun H1 locs1 hP1 hD1 hS1 => ?_)
      rw [hset] at hP1 hD1
      exact hG (sk_t (sk_t (sk_t (sk_t (sk_t h1))))) h2 H1 locs1 ls hP1 hD1 hS1 hL
    · simp [mi_copy, hci] at hf
end MM2
end
section
section MM3
variable {GW : List Cond} {NW : List mm_N} {D : va_G} {cl : List vw_C} {tys : List (ClassId × FieldType)} {ad : Nat → Nat} {cA : Nat → ClassId} {K : Nat → mm_K} {kd : Nat → Nat} {N : List Nat}
def mm_Pre (NW : List mm_N) (D : va_G) (cl : List vw_C) (tys : List (ClassId × FieldType)) (ad : Nat → Nat) (cA : Nat → ClassId) (K : Nat → mm_K) (kd : Nat → Nat) (N : List Nat) (M : mm_M) (as : List mm_V) (sz : Nat) : Array Value → State → Prop :=
  va_Pc (as.map (mm_v ad)) (fun U => U.heap.size = sz ∧ va_P D cl (mm_W ad cA K kd N M) U.heap ∧ va_K D cl tys U ∧ va_D (fun _ => True) (mm_W ad cA K kd N M) ∧ mm_nw NW U)
def mm_Post (D : va_G) (cl : List vw_C) (ad : Nat → Nat) (cA : Nat → ClassId) (K : Nat → mm_K) (kd : Nat → Nat) (N : List Nat) (r : Option Int32) (M : mm_M) (A : Nat → Prop) : Array Value → State → Outcome → State → Prop :=
  fun _ st oc t => (oc = .returned (r.map Value.int) ∧ va_P D cl (mm_W ad cA K kd N M) t.heap ∧ va_D A (mm_W ad cA K kd N M)) ∧ va_F A st t
def mm_rm (d : Nat) : Room := { frames := d, cells := 0, slots := 0, locals := 60 * d }
/-- the methods: name, code, locals, answer, class -/
abbrev mm_T : Type := (Nat → MethodName) × (Nat → ByteArray) × (Nat → Nat) × (Nat → Option FieldType)
def mm_ws (GW : List Cond) (T : mm_T) (z : Nat) : List Cond := Cond.code (T.1 z) (T.2.1 z) (T.2.2.1 z) (T.2.2.2 z) :: GW
def mm_Sound (GW : List Cond) (NW : List mm_N) (D : va_G) (cl : List vw_C) (tys : List (ClassId × FieldType)) (ad : Nat → Nat) (cA : Nat → ClassId) (K : Nat → mm_K) (kd : Nat → Nat) (N : List Nat) (l : Launch) (T : mm_T) (rm : Room) (S : mm_S) : Prop :=
  ∀ (z : Nat) (M : mm_M) (as : List mm_V) (r : Option Int32) (M' : mm_M) (sz : Nat), S z M as (r, M') → (∀ v ∈ as, mm_ok kd N v) →
    Met l (T.1 z) (mm_ws GW T z) rm (mm_Pre NW D cl tys ad cA K kd N M as sz) (mm_Post D cl ad cA K kd N r M' (va_A (mm_W ad cA K kd N M) sz)) 0 0 (va_A (mm_W ad cA K kd N M) sz)
theorem mm_nw_warm {s U : State} (hW : s.WarmedH U.vm) (h : mm_nw NW s) : mm_nw NW U := fun q hq => va_Nw.warmM hW (h q hq)
theorem mm_blind {M : mm_M} {as : List mm_V} {sz : Nat} : FrameBlind (mm_Pre NW D cl tys ad cA K kd N M as sz) := fun a U g mk q => by
  obtain ⟨q0, q1, qP, qK, qD, qN⟩ := q
  exact ⟨q0, q1, qP, va_K.moved (u := U) (U := U.calling g mk a) (Vm.Alike.refl U.vm) qK, qD, fun w hw => va_Nw.same rfl rfl (qN w hw)⟩
theorem mm_good {T : mm_T} {z : Nat} (hg : ∀ w ∈ GW, goodWord w = true) (hc : Cond.code (T.1 z) (T.2.1 z) (T.2.2.1 z) (T.2.2.2 z) ∈ GW) : GoodIn GW (mm_ws GW T z) := fun w hw => by
  rcases List.mem_cons.mp hw with h | h
  · rw [h]; exact ⟨hc, good_of_word (hg _ hc)⟩
  · exact ⟨h, good_of_word (hg _ h)⟩
theorem mm_goodA {T : mm_T} {z : Nat} {L : List Cond} (hg : ∀ w ∈ GW, goodWord w = true) (hc : Cond.code (T.1 z) (T.2.1 z) (T.2.2.1 z) (T.2.2.2 z) ∈ GW) (hL : ∀ w ∈ L, w ∈ GW) : GoodIn GW (L ++ mm_ws GW T z) := fun w hw => by
  rcases List.mem_append.mp hw with h | h
  · exact ⟨hL w h, good_of_word (hg _ (hL w h))⟩
  · exact mm_good hg hc w h
section RUN
variable {p : Program} {l : Launch} {e : Env} {R : Room} {s : State} {m : MethodId} {args : Array Value} {below : List Frame} {meth : Method} {c : Code} {H : Heap} {locs : List Loc} {cells slots : Nat} {Q : State → Prop}
variable {pc : Nat} {ls : Array Slot} {rest st0 : List Value} {a : Array Value} {A0 A1 : Nat → Prop} {H0 : Heap} {free : Addr → Prop}
theorem mm_run {r : Option Int32} {M' : mm_M} (hr : va_Run p l e R s m args below meth c H locs cells slots 0 0 (F0 m pc ls st0) rest (mm_Post D cl ad cA K kd N r M' A1 a) free) (hS : va_S A0 H0 H locs) (hA : ∀ q, q < H.size → A1 q → A0 q) (hf : ∀ q, free q → A0 q)
    (kk : ∀ (H1 : Heap) (locs1 : List Loc), va_P D cl (mm_W ad cA K kd N M') H1 → va_D A1 (mm_W ad cA K kd N M') → va_S A0 H0 H1 locs1 → W p l e R s m args below meth c H1 locs1 cells slots Q (F0 m (pc + 3) ls ((r.map Value.int).toList ++ rest))) : W p l e R s m args below meth c H locs cells slots Q (F0 m pc ls st0) := by
  intro T hT X
  obtain ⟨v, st₀, t, T', L, h0, X', hL, e1, e2, ⟨⟨hv, hp, hb⟩, hz, hk⟩, st⟩ := hr T hT X
  cases hv
  rw [h0] at hz hk
  obtain ⟨t2, a1, b1⟩ := kk T'.heap (locs ++ L) (by rw [e1]; exact hp) hb
    ⟨Nat.le_trans hS.1 (by rw [e1]; exact hz), fun q h1 h2 => by rw [e1, hk q (Nat.lt_of_lt_of_le h1 hS.1) (fun z => h2 (hA q (Nat.lt_of_lt_of_le h1 hS.1) z))]; exact hS.2.1 q h1 h2, fun q hq => by
      rcases List.mem_append.mp hq with h | h
      · exact hS.2.2 q h
      · exact hf _ (hL q h)⟩ T' rfl X'
  exact ⟨t2, st t2 a1, b1⟩
end RUN
theorem mm_in {A : Nat → Prop} {M : mm_M} {H0 H : Heap} {locs : List Loc} (hD : va_D A (mm_W ad cA K kd N M)) (hS : va_S A H0 H locs) (hA : ∀ q, H0.size ≤ q → A q) : ∀ q, va_A (mm_W ad cA K kd N M) H.size q → A q := fun q h => by
  rcases h with ⟨k, e, h⟩ | h
  · exact hD.2 k _ h
  · exact hA q (Nat.le_trans hS.1 h)
variable {l : Launch} {R : Room} {own : String} {cc : ByteArray} {nL pc : Nat} {S : mm_S} {T : mm_T} {rm : Room}
theorem mm_split {st As : List mm_V} {q : mm_V} {n : Nat} (h : (st.take n).reverse = q :: As) : st = As.reverse ++ q :: st.drop n := by
  have h1 : st.take n = (q :: As).reverse := by rw [← h, List.reverse_reverse]
  have h2 := List.take_append_drop n st
  rw [h1] at h2
  simpa using h2.symm
theorem mm_split0 {st As : List mm_V} {n : Nat} (h : (st.take n).reverse = As) : st = As.reverse ++ st.drop n := by
  rw [← h, List.reverse_reverse, List.take_append_drop]
set_option maxHeartbeats 1000000 in
theorem ok_callV {ci idx z n Nf : Nat} {C : String} {Tb : u_T} (hc : cl[ci]? = some (C, Tb, Nf)) (hS : mm_Sound GW NW D cl tys ad cA K kd N l T rm S) (hrm : rm.cells = 0 ∧ rm.slots = 0) (hR : rm.frames + 1 ≤ R.frames ∧ 8 + (T.2.2.1 z + 11) + rm.locals ≤ R.locals) {F : List (Option (Nat × Nat))} (hF : K ci = .inl F)
    (hg : ∀ w ∈ GW, goodWord w = true) (hcd : Cond.code (T.1 z) (T.2.1 z) (T.2.2.1 z) (T.2.2.2 z) ∈ GW) (hw : ∀ w ∈ [Cond.methodLink own idx (T.1 z), .instanceMethod (T.1 z), .selects C (T.1 z) (T.1 z), .initialized C], w ∈ GW)
    (hd : (T.1 z).cls = C ∧ (T.1 z).cls ≠ "java/lang/invoke/MethodHandle" ∧ (T.1 z).cls ≠ "java/lang/invoke/VarHandle" ∧ (parseMethodDescriptor (T.1 z).desc).map (fun d => d.parameters.length) = some n) (d : decode cc pc = .ok (.invokevirtual idx, 3)) :
    mm_Ok GW NW D cl tys ad cA K kd N l R own cc nL S pc (mi_call z (n + 1) (some ci)) := by
  intro p e s m args below meth c A cells slots Q X o g g' P hpc hf hP9 hG h1 h2 H locs ls hP hD hS9 hL
  obtain ⟨M, pc', gl, st⟩ := g
  simp only at hpc
  subst hpc
  obtain ⟨⟨hx, hb, hml, hown⟩, hts, hnw, hK, hlay, hA, hlk, hcl, hsl⟩ := X
  simp only at h1 h2 hP hD hL
  obtain ⟨w, r, M'⟩ := o
  obtain ⟨rfl, rfl⟩ := Prod.mk.inj (Option.some.inj hf)
  obtain ⟨hSem, hn, hrest, i, hhd⟩ := hP9
  simp only at hSem hn hrest hhd
  cases has : (st.take (n + 1)).reverse with
  | nil => rw [has] at hhd; simp at hhd
  | cons q As =>
    rw [has] at hhd hSem
    have hq : q = .inr (ci, i) := by simpa using hhd
    subst hq
    have hst := mm_split has
    have hlen : As.length = n := by
      have h3 := congrArg List.length has
      simp at h3
      omega
    have hval : ∀ v ∈ ((.inr (ci, i) : mm_V) :: As), mm_ok kd N v := fun v hv => h1 v (by
      have : v ∈ (st.take (n + 1)).reverse := by rw [has]; exact hv
      exact List.mem_of_mem_take (List.mem_reverse.mp this))
    obtain ⟨hi, hkd⟩ := sk_h hval
    obtain ⟨q0, hq0, he⟩ := mm_W_get (ad := ad) (cA := cA) (K := K) (kd := kd) (M := M) hi
    rw [hkd, mm_E_obj hF] at he
    have hM := hS z M (.inr (ci, i) :: As) r M' H.size hSem hval
    have hin := mm_in hD hS9 hA
    have hroom : ((((st.drop (n + 1)).map (mm_v ad)).map fun v => v.category)).sum ≤ 8 := by rw [mm_sum]; exact hrest
    have hstk : st.map (mm_v ad) = (As.map (mm_v ad)).reverse ++ Value.ref (ad i) :: (st.drop (n + 1)).map (mm_v ad) := by
      conv => lhs; rw [hst]
      simp [mm_v]
    refine mm_run (va_runV (As := As.map (mm_v ad)) (rest := (st.drop (n + 1)).map (mm_v ad)) (b := ad i) ⟨hx, hb, hml, hown, hts⟩ hM (cwV n hts (mm_goodA hg hcd hw) rfl hrm.1 hrm.2 hd hR) ⟨mm_blind, va_recv hK hP hc he, fun U hU hW => ⟨rfl, by rw [hU], by rw [hU]; exact hP, va_K.moved hW.alike hK, hD.weaken (fun _ _ _ _ => trivial), mm_nw_warm hW hnw⟩⟩ rfl (by simp [hlen]) hL.1 hstk (lv_room hroom) d ⟨hcl, hsl⟩) hS9 (fun q _ h => hin q h) hin (fun H1 locs1 hP1 hD1 hS1 => ?_)
    have hk := hG (by
      cases r with
      | none => exact fun v hv => h1 v (List.mem_of_mem_drop hv)
      | some r => exact sk_i (fun v hv => h1 v (List.mem_of_mem_drop hv))) h2 H1 locs1 ls hP1 (hD1.weaken (fun _ q _ h => hin q.1 h)) hS1 hL
    cases r with
    | none => exact hk
    | some r => exact hk
set_option maxHeartbeats 1000000 in
theorem ok_callS {idx z n : Nat} (hS : mm_Sound GW NW D cl tys ad cA K kd N l T rm S) (hrm : rm.cells = 0 ∧ rm.slots = 0) (hR : rm.frames + 1 ≤ R.frames ∧ 8 + (T.2.2.1 z + 11) + rm.locals ≤ R.locals)
    (hg : ∀ w ∈ GW, goodWord w = true) (hcd : Cond.code (T.1 z) (T.2.1 z) (T.2.2.1 z) (T.2.2.2 z) ∈ GW) (hw : ∀ w ∈ [Cond.methodLink own idx (T.1 z), .static (T.1 z), .initialized (T.1 z).cls], w ∈ GW)
    (hd : (T.1 z).cls ≠ "java/lang/invoke/MethodHandle" ∧ (T.1 z).cls ≠ "java/lang/invoke/VarHandle" ∧ (parseMethodDescriptor (T.1 z).desc).map (fun d => d.parameters.length) = some n) (d : decode cc pc = .ok (.invokestatic idx, 3)) :
    mm_Ok GW NW D cl tys ad cA K kd N l R own cc nL S pc (mi_call z n none) := by
  intro p e s m args below meth c A cells slots Q X o g g' P hpc hf hP9 hG h1 h2 H locs ls hP hD hS9 hL
  obtain ⟨M, pc', gl, st⟩ := g
  simp only at hpc
  subst hpc
  obtain ⟨⟨hx, hb, hml, hown⟩, hts, hnw, hK, hlay, hA, hlk, hcl, hsl⟩ := X
  simp only at h1 h2 hP hD hL
  obtain ⟨w, r, M'⟩ := o
  obtain ⟨rfl, rfl⟩ := Prod.mk.inj (Option.some.inj hf)
  obtain ⟨hSem, hn, hrest, -⟩ := hP9
  simp only at hSem hn hrest
  generalize has : (st.take n).reverse = As at hSem
  have hst := mm_split0 has
  have hlen : As.length = n := by
    have h3 := congrArg List.length has
    simp at h3
    omega
  have hval : ∀ v ∈ As, mm_ok kd N v := fun v hv => h1 v (by
    have : v ∈ (st.take n).reverse := by rw [has]; exact hv
    exact List.mem_of_mem_take (List.mem_reverse.mp this))
  have hM := hS z M As r M' H.size hSem hval
  have hin := mm_in hD hS9 hA
  have hroom : ((((st.drop n).map (mm_v ad)).map fun v => v.category)).sum ≤ 8 := by rw [mm_sum]; exact hrest
  have hstk : st.map (mm_v ad) = (As.map (mm_v ad)).reverse ++ (st.drop n).map (mm_v ad) := by
    conv => lhs; rw [hst]
    simp
  refine mm_run (va_runS (As := As.map (mm_v ad)) (rest := (st.drop n).map (mm_v ad)) ⟨hx, hb, hml, hown, hts⟩ hM (va_cwS n hts (mm_goodA hg hcd hw) rfl hrm.1 hrm.2 hd hR) ⟨mm_blind, fun U hU hW => ⟨rfl, by rw [hU], by rw [hU]; exact hP, va_K.moved hW.alike hK, hD.weaken (fun _ _ _ _ => trivial), mm_nw_warm hW hnw⟩⟩ rfl (by simp [hlen]) hL.1 hstk (lv_room hroom) d ⟨hcl, hsl⟩) hS9 (fun q _ h => hin q h) hin (fun H1 locs1 hP1 hD1 hS1 => ?_)
  have hk := hG (by
    cases r with
    | none => exact fun v hv => h1 v (List.mem_of_mem_drop hv)
    | some r => exact sk_i (fun v hv => h1 v (List.mem_of_mem_drop hv))) h2 H1 locs1 ls hP1 (hD1.weaken (fun _ q _ h => hin q.1 h)) hS1 hL
  cases r with
  | none => exact hk
  | some r => exact hk
set_option maxHeartbeats 1000000 in
theorem ok_callN {idx z n : Nat} {host : String} (hS : mm_Sound GW NW D cl tys ad cA K kd N l T rm S) (hrm : rm.cells = 0 ∧ rm.slots = 0) (hR : rm.frames + 1 ≤ R.frames ∧ 8 + (T.2.2.1 z + 11) + rm.locals ≤ R.locals)
    (hg : ∀ w ∈ GW, goodWord w = true) (hcd : Cond.code (T.1 z) (T.2.1 z) (T.2.2.1 z) (T.2.2.2 z) ∈ GW) (hw : ∀ w ∈ [Cond.static (T.1 z), .initialized (T.1 z).cls], w ∈ GW) (hnw9 : (own, idx, T.1 z, host) ∈ NW)
    (hd : (T.1 z).cls ≠ "java/lang/invoke/MethodHandle" ∧ (T.1 z).cls ≠ "java/lang/invoke/VarHandle" ∧ (parseMethodDescriptor (T.1 z).desc).map (fun d => d.parameters.length) = some n) (d : decode cc pc = .ok (.invokestatic idx, 3)) :
    mm_Ok GW NW D cl tys ad cA K kd N l R own cc nL S pc (mi_call z n none) := by
  intro p e s m args below meth c A cells slots Q X o g g' P hpc hf hP9 hG h1 h2 H locs ls hP hD hS9 hL
  obtain ⟨M, pc', gl, st⟩ := g
  simp only at hpc
  subst hpc
  obtain ⟨⟨hx, hb, hml, hown⟩, hts, hnw, hK, hlay, hA, hlk, hcl, hsl⟩ := X
  simp only at h1 h2 hP hD hL
  obtain ⟨w, r, M'⟩ := o
  obtain ⟨rfl, rfl⟩ := Prod.mk.inj (Option.some.inj hf)
  obtain ⟨hSem, hn, hrest, -⟩ := hP9
  simp only at hSem hn hrest
  generalize has : (st.take n).reverse = As at hSem
  have hst := mm_split0 has
  have hlen : As.length = n := by
    have h3 := congrArg List.length has
    simp at h3
    omega
  have hval : ∀ v ∈ As, mm_ok kd N v := fun v hv => h1 v (by
    have : v ∈ (st.take n).reverse := by rw [has]; exact hv
    exact List.mem_of_mem_take (List.mem_reverse.mp this))
  have hM := hS z M As r M' H.size hSem hval
  have hin := mm_in hD hS9 hA
  have hroom : ((((st.drop n).map (mm_v ad)).map fun v => v.category)).sum ≤ 8 := by rw [mm_sum]; exact hrest
  have hstk : st.map (mm_v ad) = (As.map (mm_v ad)).reverse ++ (st.drop n).map (mm_v ad) := by
    conv => lhs; rw [hst]
    simp
  refine mm_run (va_runSN (As := As.map (mm_v ad)) (rest := (st.drop n).map (mm_v ad)) ⟨hx, hb, hml, hown, hts⟩ hM ⟨va_cnB n hts (mm_good hg hcd) rfl hrm.1 hrm.2 (hnw _ hnw9) (hts _ (hw _ (List.mem_cons_of_mem _ List.mem_cons_self))) hd hR, hts _ (hw _ List.mem_cons_self), trivial⟩ ⟨mm_blind, fun U hU hW => ⟨rfl, by rw [hU], by rw [hU]; exact hP, va_K.moved hW.alike hK, hD.weaken (fun _ _ _ _ => trivial), mm_nw_warm hW hnw⟩⟩ rfl (by simp [hlen]) hL.1 hstk (lv_room hroom) d ⟨hcl, hsl⟩) hS9 (fun q _ h => hin q h) hin (fun H1 locs1 hP1 hD1 hS1 => ?_)
  have hk := hG (by
    cases r with
    | none => exact fun v hv => h1 v (List.mem_of_mem_drop hv)
    | some r => exact sk_i (fun v hv => h1 v (List.mem_of_mem_drop hv))) h2 H1 locs1 ls hP1 (hD1.weaken (fun _ q _ h => hin q.1 h)) hS1 hL
  cases r with
  | none => exact hk
  | some r => exact hk
end MM3
end
section
section MM5
variable {GW : List Cond} {NW : List mm_N} {D : va_G} {cl : List vw_C} {tys : List (ClassId × FieldType)} {ad : Nat → Nat} {cA : Nat → ClassId} {K : Nat → mm_K} {kd : Nat → Nat} {N : List Nat}
variable {l : Launch} {R : Room} {own : String} {cc : ByteArray} {nL : Nat} {S : mm_S}
/-- a return of the table is the machine's -/
def mm_RtOk (cc : ByteArray) (ret : Option FieldType) (rt : List (Nat × Nat)) : Prop := ∀ pc k, mm_at rt pc = some k → (k = 0 ∧ ret = none ∧ decode cc pc = .ok (.return_, 1)) ∨ (k = 1 ∧ ret = some .int ∧ decode cc pc = .ok (.ireturn, 1)) ∨ (k = 2 ∧ ret = some .boolean ∧ decode cc pc = .ok (.ireturn, 1))
theorem mm_rt_nil {cc : ByteArray} {ret : Option FieldType} : mm_RtOk cc ret [] := fun pc k h => by simp [mm_at] at h
theorem mm_rt_cons {cc : ByteArray} {ret : Option FieldType} {k n : Nat} {t : List (Nat × Nat)} (h : (n = 0 ∧ ret = none ∧ decode cc k = .ok (.return_, 1)) ∨ (n = 1 ∧ ret = some .int ∧ decode cc k = .ok (.ireturn, 1)) ∨ (n = 2 ∧ ret = some .boolean ∧ decode cc k = .ok (.ireturn, 1))) (ht : mm_RtOk cc ret t) : mm_RtOk cc ret ((k, n) :: t) := fun pc q hq => by
  simp only [mm_at] at hq
  cases hb : Nat.beq k pc with
  | true =>
    rw [hb] at hq
    have e1 : k = pc := Nat.eq_of_beq_eq_true hb
    have e2 : n = q := Option.some.inj hq
    rw [← e1, ← e2]; exact h
  | false => rw [hb] at hq; exact ht pc q hq
theorem mm_rmok {d mx : Nat} (h : mx ≤ 30) : (mm_rm d).frames + 1 ≤ (mm_rm (d + 1)).frames ∧ 8 + (mx + 11) + (mm_rm d).locals ≤ (mm_rm (d + 1)).locals := ⟨Nat.le_refl _, by show 8 + (mx + 11) + 60 * d ≤ 60 * (d + 1); omega⟩
theorem mm_rmR {d : Nat} : 1 ≤ (mm_rm (d + 1)).frames ∧ 30 ≤ (mm_rm (d + 1)).locals := ⟨Nat.le_add_left 1 d, by show 30 ≤ 60 * (d + 1); omega⟩
set_option maxHeartbeats 1000000 in
theorem mm_body {pg : List (Nat × mm_F)} {rt : List (Nat × Nat)} {ret : Option FieldType} (hpg : ∀ pc f, mm_at pg pc = some f → mm_Ok GW NW D cl tys ad cA K kd N l R own cc nL S pc f) (hrt : mm_RtOk cc ret rt)
    {p : Program} {e : Env} {s : State} {m : MethodId} {args : Array Value} {below : List Frame} {meth : Method} {c : Code} {A : Nat → Prop} (X : mm_Cx GW NW D cl tys K kd N R own cc nL p s m args meth c A 0 0) (hr : meth.sig.returnType = ret) :
    ∀ (os : List mm_O) (g g' : mm_C) (P : Prop) (r : Option Int32) (M' : mm_M), mm_path pg S os g = some (g', P) → P → mm_Rt rt g' (r, M') → mm_G D cl ad cA K kd N p l e R s m args below meth c A nL 0 0 (MQ below (mm_Post D cl ad cA K kd N r M' A) args s 0 0 A) g
  | [], g, g', P, r, M', h, hP, hret => by
    obtain ⟨rfl, rfl⟩ := Prod.mk.inj (Option.some.inj h)
    intro h1 h2 H locs ls hP1 hD hS hL
    obtain ⟨M, pc, gl, st⟩ := g
    obtain ⟨⟨hx, hb, hml, hown⟩, hts, hnw, hK, hlay, hA, hlk, hcl, hsl⟩ := X
    simp only at h1 h2 hP1 hD hL
    simp only [mm_Rt] at hret
    cases hk : mm_at rt pc with
    | none => rw [hk] at hret; exact hret.elim
    | some k =>
      rcases hrt pc k hk with ⟨rfl, hr1, d⟩ | ⟨rfl, hr1, d⟩ | ⟨rfl, hr1, d⟩
      · rw [hk] at hret
        obtain ⟨rfl, he⟩ := hret
        obtain ⟨rfl, rfl⟩ := Prod.mk.inj he
        exact W.vret hx hb (hr.trans hr1) (fun t ht hW => ⟨⟨rfl, by rw [ht]; exact hP1, hD⟩, hS.F ht⟩) hS.2.2 d hlk
      · rw [hk] at hret
        obtain ⟨r1, rfl, he⟩ := hret
        obtain ⟨rfl, rfl⟩ := Prod.mk.inj he
        exact W.iret (v := r1) hx hb (hr.trans hr1) (fun t ht hW => ⟨⟨rfl, by rw [ht]; exact hP1, hD⟩, hS.F ht⟩) hS.2.2 d hlk
      · rw [hk] at hret
        obtain ⟨r1, rfl, he, hz⟩ := hret
        obtain ⟨rfl, rfl⟩ := Prod.mk.inj he
        exact W.zret (v := r1) hx hb (hr.trans hr1) (by rcases hz with rfl | rfl <;> rfl) (fun t ht hW => ⟨⟨rfl, by rw [ht]; exact hP1, hD⟩, hS.F ht⟩) hS.2.2 d hlk
  | o :: os, g, g', P, r, M', h, hP, hret => by
    simp only [mm_path] at h
    cases h1 : mm_at pg g.2.1 with
    | none => simp [h1] at h
    | some f =>
      simp only [h1] at h
      cases h2 : f S o g with
      | none => simp [h2] at h
      | some q =>
        obtain ⟨g1, P1⟩ := q
        simp only [h2] at h
        cases h3 : mm_path pg S os g1 with
        | none => simp [h3] at h
        | some q2 =>
          obtain ⟨g2, P2⟩ := q2
          simp only [h3] at h
          obtain ⟨e1, e2⟩ := Prod.mk.inj (Option.some.inj h)
          subst e1
          rw [← e2] at hP
          exact hpg _ _ h1 p e s m args below meth c A 0 0 _ X o g g1 P1 rfl h2 hP.1 (mm_body hpg hrt X hr os g1 g2 P2 r M' h3 hP.2 hret)
set_option maxHeartbeats 1000000 in
theorem mm_met {T : mm_T} {z : Nat} {pg : List (Nat × mm_F)} {rt : List (Nat × Nat)} (hpl : plainName (T.1 z).cls = true) (hlay : mm_lay K kd N)
    (hpg : ∀ pc f, mm_at pg pc = some f → mm_Ok GW NW D cl tys ad cA K kd N l R (T.1 z).cls (T.2.1 z) (T.2.2.1 z) S pc f) (hrt : mm_RtOk (T.2.1 z) (T.2.2.2 z) rt)
    {M : mm_M} {as : List mm_V} {r : Option Int32} {M' : mm_M} {sz : Nat} (hn : as.length ≤ T.2.2.1 z) (hE : mm_Ends pg rt S (M, 0, as.map some ++ List.replicate (T.2.2.1 z - as.length) none, []) (r, M')) (hok : ∀ v ∈ as, mm_ok kd N v) :
    Met l (T.1 z) (mm_ws GW T z) R (mm_Pre NW D cl tys ad cA K kd N M as sz) (mm_Post D cl ad cA K kd N r M' (va_A (mm_W ad cA K kd N M) sz)) 0 0 (va_A (mm_W ad cA K kd N M) sz) := by
  refine Met.ofW (cc := T.2.1 z) (maxL := T.2.2.1 z) (ret := T.2.2.2 z) hpl rfl ?_
  intro p e s m args below meth c s₁ B hml hv
  obtain ⟨rfl, hsz, hP, hK, hD0, hnw⟩ := hv
  have hts := atoms_spec (ws := mm_ws GW T z) B.pre
  have hown : s.vm.findClass (T.1 z).cls = some m.cls := findClass_of_methodNamed B.named
  have hlocks := B.notSynchronized
  subst hsz
  have hD := hD0.self (sz := s.heap.size)
  obtain ⟨ls, hfr, hL⟩ := mm_entry (ad := ad) m as hn
  rw [hfr]
  obtain ⟨os, g', P, h1, h2, h3⟩ := hE
  refine mm_body hpg hrt ⟨⟨B.exec, B.bytes, hml, hown⟩, fun w hw => hts w (List.mem_cons_of_mem _ hw), hnw, hK, hlay, fun q h => Or.inr h, hlocks, Nat.zero_le _, Nat.zero_le _⟩ B.returns os _ g' P r M' h1 h2 h3 (fun v hv => by simp at hv) (fun v hv => ?_) s.heap [] ls hP hD va_S.rf hL
  rcases List.mem_append.mp hv with h | h
  · obtain ⟨w, hw, e⟩ := List.mem_map.mp h
    have : w = v := by simpa using e
    rw [← this]
    exact hok w hw
  · have := List.eq_of_mem_replicate h
    simp at this
/-- what the methods do, calls up to depth d -/
def mm_Sem (mx : Nat → Nat) (pg : Nat → List (Nat × mm_F)) (rt : Nat → List (Nat × Nat)) : Nat → mm_S
  | 0 => fun _ _ _ _ => False
  | d + 1 => fun z M as res => as.length ≤ mx z ∧ mm_Ends (pg z) (rt z) (mm_Sem mx pg rt d) (M, 0, as.map some ++ List.replicate (mx z - as.length) none, []) res
theorem mm_sound {T : mm_T} {pg : Nat → List (Nat × mm_F)} {rt : Nat → List (Nat × Nat)} (hlay : mm_lay K kd N) (hpl : ∀ z, rt z ≠ [] → plainName (T.1 z).cls = true) (hrt : ∀ z, rt z ≠ [] → mm_RtOk (T.2.1 z) (T.2.2.2 z) (rt z))
    (hpg : ∀ (d : Nat) (S : mm_S), mm_Sound GW NW D cl tys ad cA K kd N l T (mm_rm d) S → ∀ z, rt z ≠ [] → ∀ pc f, mm_at (pg z) pc = some f → mm_Ok GW NW D cl tys ad cA K kd N l (mm_rm (d + 1)) (T.1 z).cls (T.2.1 z) (T.2.2.1 z) S pc f) :
    ∀ d, mm_Sound GW NW D cl tys ad cA K kd N l T (mm_rm d) (mm_Sem T.2.2.1 pg rt d)
  | 0 => fun z M as r M' sz h _ => h.elim
  | d + 1 => fun z M as r M' sz h hok => by
    have hz : rt z ≠ [] := by
      intro h0
      obtain ⟨-, os, g', P, -, -, h3⟩ := h
      rw [h0] at h3
      exact h3
    exact mm_met (hpl z hz) hlay (hpg d _ (mm_sound hlay hpl hrt hpg d) z hz) (hrt z hz) h.1 h.2 hok
/-- more depth does no harm -/
theorem mm_Ends_mono {pg : List (Nat × mm_F)} {rt : List (Nat × Nat)} {S S' : mm_S} (hf : ∀ pc f, mm_at pg pc = some f → ∀ o g g' P, f S o g = some (g', P) → P → ∃ P', f S' o g = some (g', P') ∧ P') : ∀ {g : mm_C} {res : mm_R}, mm_Ends pg rt S g res → mm_Ends pg rt S' g res := by
  intro g res h
  obtain ⟨os, g', P, h1, h2, h3⟩ := h
  have key : ∀ (os : List mm_O) (g g' : mm_C) (P : Prop), mm_path pg S os g = some (g', P) → P → ∃ P', mm_path pg S' os g = some (g', P') ∧ P' := by
    intro os
    induction os with
    | nil => exact fun g g' P h hP => ⟨P, h, hP⟩
    | cons o os ih =>
      intro g g' P h hP
      simp only [mm_path] at h
      cases h1 : mm_at pg g.2.1 with
      | none => simp [h1] at h
      | some f =>
        simp only [h1] at h
        cases h2 : f S o g with
        | none => simp [h2] at h
        | some q =>
          obtain ⟨g1, P1⟩ := q
          simp only [h2] at h
          cases h3 : mm_path pg S os g1 with
          | none => simp [h3] at h
          | some q2 =>
            obtain ⟨g2, P2⟩ := q2
            simp only [h3] at h
            obtain ⟨e1, e2⟩ := Prod.mk.inj (Option.some.inj h)
            subst e1
            rw [← e2] at hP
            obtain ⟨P3, h4, h5⟩ := hf _ _ h1 o g g1 P1 h2 hP.1
            obtain ⟨P4, h6, h7⟩ := ih g1 g2 P2 h3 hP.2
            exact ⟨P3 ∧ P4, by simp only [mm_path, h1, h4, h6], h5, h7⟩
  obtain ⟨P', h4, h5⟩ := key os g g' P h1 h2
  exact ⟨os, g', P', h4, h5, h3⟩
end MM5
end
section
def ct_R0 : String := "CraneTurns$Crane"
def ct_T0 : u_T := fun k => match k with
  | 0 => ("CraneTurns$Crane", "place", "I", false)
  | 1 => ("CraneTurns$Crane", "low", "I", false)
  | 2 => ("CraneTurns$Crane", "high", "I", false)
  | 3 => ("CraneTurns$Crane", "isBroken", "Z", false)
  | 4 => ("CraneTurns$Crane", "atHand", "I", false)
  | 5 => ("CraneTurns$Crane", "does", "I", false)
  | 6 => ("CraneTurns$Crane", "goal", "I", false)
  | 7 => ("CraneTurns$Crane", "toGo", "I", false)
  | 8 => ("CraneTurns$Crane", "seconds", "[I", true)
  | 9 => ("CraneTurns$Crane", "waiting", "[I", true)
  | _ => ("CraneTurns$Crane", "waitingCount", "I", false)
def ct_ty0 : Nat → FieldType := fun k => match k with
  | 0 => .int
  | 1 => .int
  | 2 => .int
  | 3 => .boolean
  | 4 => .int
  | 5 => .int
  | 6 => .int
  | 7 => .int
  | 8 => .array .int
  | 9 => .array .int
  | _ => .int
theorem ct_nm0 : ∀ a, a < 11 → ∀ b, b < 11 → a ≠ b → (ct_T0 a).2.1 ≠ (ct_T0 b).2.1 := by decide +kernel
theorem ct_tyok0 : ∀ k, k < 11 → parseFieldDescriptor (ct_T0 k).2.2.1 = some (ct_ty0 k) := by decide +kernel
def ct_R1 : String := "CraneTurns$Job"
def ct_T1 : u_T := fun k => match k with
  | 0 => ("CraneTurns$Job", "from", "I", false)
  | 1 => ("CraneTurns$Job", "to", "I", false)
  | 2 => ("CraneTurns$Job", "ready", "I", false)
  | 3 => ("CraneTurns$Job", "stands", "I", false)
  | 4 => ("CraneTurns$Job", "owner", "I", false)
  | _ => ("CraneTurns$Job", "doneAt", "I", false)
def ct_ty1 : Nat → FieldType := fun k => match k with
  | 0 => .int
  | 1 => .int
  | 2 => .int
  | 3 => .int
  | 4 => .int
  | _ => .int
theorem ct_nm1 : ∀ a, a < 6 → ∀ b, b < 6 → a ≠ b → (ct_T1 a).2.1 ≠ (ct_T1 b).2.1 := by decide +kernel
theorem ct_tyok1 : ∀ k, k < 6 → parseFieldDescriptor (ct_T1 k).2.2.1 = some (ct_ty1 k) := by decide +kernel
def ct_R2 : String := "CraneTurns$Planner"
def ct_T2 : u_T := fun k => match k with
  | 0 => ("CraneTurns$Planner", "trial", "LCraneTurns$Yard;", true)
  | 1 => ("CraneTurns$Planner", "inWay", "[Z", true)
  | 2 => ("CraneTurns$Planner", "wayJobs", "[I", true)
  | 3 => ("CraneTurns$Planner", "wayCranes", "[I", true)
  | 4 => ("CraneTurns$Planner", "best", "[I", true)
  | 5 => ("CraneTurns$Planner", "givings", "I", false)
  | 6 => ("CraneTurns$Planner", "bestCount", "I", false)
  | 7 => ("CraneTurns$Planner", "bestSeconds", "I", false)
  | _ => ("CraneTurns$Planner", "limit", "I", false)
def ct_ty2 : Nat → FieldType := fun k => match k with
  | 0 => .object "CraneTurns$Yard"
  | 1 => .array .boolean
  | 2 => .array .int
  | 3 => .array .int
  | 4 => .array .int
  | 5 => .int
  | 6 => .int
  | 7 => .int
  | _ => .int
theorem ct_nm2 : ∀ a, a < 9 → ∀ b, b < 9 → a ≠ b → (ct_T2 a).2.1 ≠ (ct_T2 b).2.1 := by decide +kernel
theorem ct_tyok2 : ∀ k, k < 9 → parseFieldDescriptor (ct_T2 k).2.2.1 = some (ct_ty2 k) := by decide +kernel
def ct_R3 : String := "CraneTurns$Yard"
def ct_T3 : u_T := fun k => match k with
  | 0 => ("CraneTurns$Yard", "craneCount", "I", false)
  | 1 => ("CraneTurns$Yard", "gap", "I", false)
  | 2 => ("CraneTurns$Yard", "speed", "I", false)
  | 3 => ("CraneTurns$Yard", "lift", "I", false)
  | 4 => ("CraneTurns$Yard", "clock", "I", false)
  | 5 => ("CraneTurns$Yard", "nearest", "I", false)
  | 6 => ("CraneTurns$Yard", "jobCount", "I", false)
  | 7 => ("CraneTurns$Yard", "openJobs", "I", false)
  | 8 => ("CraneTurns$Yard", "givenEver", "Z", false)
  | 9 => ("CraneTurns$Yard", "cranes", "[LCraneTurns$Crane;", true)
  | _ => ("CraneTurns$Yard", "jobs", "[LCraneTurns$Job;", true)
def ct_ty3 : Nat → FieldType := fun k => match k with
  | 0 => .int
  | 1 => .int
  | 2 => .int
  | 3 => .int
  | 4 => .int
  | 5 => .int
  | 6 => .int
  | 7 => .int
  | 8 => .boolean
  | 9 => .array (.object "CraneTurns$Crane")
  | _ => .array (.object "CraneTurns$Job")
theorem ct_nm3 : ∀ a, a < 11 → ∀ b, b < 11 → a ≠ b → (ct_T3 a).2.1 ≠ (ct_T3 b).2.1 := by decide +kernel
theorem ct_tyok3 : ∀ k, k < 11 → parseFieldDescriptor (ct_T3 k).2.2.1 = some (ct_ty3 k) := by decide +kernel
def ct_R4 : String := "CraneTurns"
def ct_T4 : u_T := fun k => match k with
  | 0 => ("CraneTurns", "yard", "LCraneTurns$Yard;", true)
  | _ => ("CraneTurns", "planner", "LCraneTurns$Planner;", true)
def ct_ty4 : Nat → FieldType := fun k => match k with
  | 0 => .object "CraneTurns$Yard"
  | _ => .object "CraneTurns$Planner"
theorem ct_nm4 : ∀ a, a < 2 → ∀ b, b < 2 → a ≠ b → (ct_T4 a).2.1 ≠ (ct_T4 b).2.1 := by decide +kernel
theorem ct_tyok4 : ∀ k, k < 2 → parseFieldDescriptor (ct_T4 k).2.2.1 = some (ct_ty4 k) := by decide +kernel
def ct_R5 : String := "CraneTurnsModel"
def ct_T5 : u_T := fun k => match k with
  | 0 => ("CraneTurnsModel", "thrown", "I", false)
  | 1 => ("CraneTurnsModel", "cranes", "I", false)
  | 2 => ("CraneTurnsModel", "gap", "I", false)
  | 3 => ("CraneTurnsModel", "speed", "I", false)
  | 4 => ("CraneTurnsModel", "lift", "I", false)
  | 5 => ("CraneTurnsModel", "jobs", "I", false)
  | 6 => ("CraneTurnsModel", "low", "[I", true)
  | 7 => ("CraneTurnsModel", "high", "[I", true)
  | 8 => ("CraneTurnsModel", "all", "[I", true)
  | 9 => ("CraneTurnsModel", "kept", "[I", true)
  | 10 => ("CraneTurnsModel", "way", "[I", true)
  | 11 => ("CraneTurnsModel", "best", "[I", true)
  | _ => ("CraneTurnsModel", "bestMany", "I", false)
def ct_ty5 : Nat → FieldType := fun k => match k with
  | 0 => .int
  | 1 => .int
  | 2 => .int
  | 3 => .int
  | 4 => .int
  | 5 => .int
  | 6 => .array .int
  | 7 => .array .int
  | 8 => .array .int
  | 9 => .array .int
  | 10 => .array .int
  | 11 => .array .int
  | _ => .int
theorem ct_nm5 : ∀ a, a < 13 → ∀ b, b < 13 → a ≠ b → (ct_T5 a).2.1 ≠ (ct_T5 b).2.1 := by decide +kernel
theorem ct_tyok5 : ∀ k, k < 13 → parseFieldDescriptor (ct_T5 k).2.2.1 = some (ct_ty5 k) := by decide +kernel
abbrev ct_cl : List vw_C := [(ct_R0, ct_T0, 11), (ct_R1, ct_T1, 6), (ct_R2, ct_T2, 9), (ct_R3, ct_T3, 11), (ct_R4, ct_T4, 2), (ct_R5, ct_T5, 13)]
/-- the words that stay -/
def ct_GW : List Cond := lw_tbl.filter goodWord
theorem ct_good : ∀ w ∈ ct_GW, goodWord w = true := fun w h => (List.mem_filter.mp h).2
theorem ct_t1 {w : Cond} (h : w ∈ tables_1_1) (hg : goodWord w = true) : w ∈ ct_GW := List.mem_filter.mpr ⟨List.mem_append_right _ (List.mem_append_left _ h), hg⟩
theorem ct_t2 {w : Cond} (h : w ∈ tables_1_2) (hg : goodWord w = true) : w ∈ ct_GW := List.mem_filter.mpr ⟨List.mem_append_right _ (List.mem_append_right _ (List.mem_append_left _ h)), hg⟩
theorem ct_t3 {w : Cond} (h : w ∈ tables_1_3) (hg : goodWord w = true) : w ∈ ct_GW := List.mem_filter.mpr ⟨List.mem_append_right _ (List.mem_append_right _ (List.mem_append_right _ (List.mem_append_left _ h))), hg⟩
theorem ct_t4 {w : Cond} (h : w ∈ tables_1_4) (hg : goodWord w = true) : w ∈ ct_GW := List.mem_filter.mpr ⟨List.mem_append_right _ (List.mem_append_right _ (List.mem_append_right _ (List.mem_append_right _ h))), hg⟩
theorem ct_p1 {q : MethodName × Nat} (h : q ∈ lw_privs_1) : Cond.selects q.1.cls q.1 q.1 ∈ ct_GW := List.mem_filter.mpr ⟨List.mem_append_left _ (List.mem_map.mpr ⟨q, List.mem_append_left _ h, rfl⟩), rfl⟩
theorem ct_p2 {q : MethodName × Nat} (h : q ∈ lw_privs_2) : Cond.selects q.1.cls q.1 q.1 ∈ ct_GW := List.mem_filter.mpr ⟨List.mem_append_left _ (List.mem_map.mpr ⟨q, List.mem_append_right _ (List.mem_append_left _ h), rfl⟩), rfl⟩
theorem ct_p3 {q : MethodName × Nat} (h : q ∈ lw_privs_3) : Cond.selects q.1.cls q.1 q.1 ∈ ct_GW := List.mem_filter.mpr ⟨List.mem_append_left _ (List.mem_map.mpr ⟨q, List.mem_append_right _ (List.mem_append_right _ h), rfl⟩), rfl⟩
theorem ct_in0 : ∀ w ∈ u_ws ct_R0 ct_T0 11, w ∈ ct_GW := by decide +kernel
theorem ct_in1 : ∀ w ∈ u_ws ct_R1 ct_T1 6, w ∈ ct_GW := by decide +kernel
theorem ct_in2 : ∀ w ∈ u_ws ct_R2 ct_T2 9, w ∈ ct_GW := by decide +kernel
theorem ct_in3 : ∀ w ∈ u_ws ct_R3 ct_T3 11, w ∈ ct_GW := by decide +kernel
theorem ct_in4 : ∀ w ∈ u_ws ct_R4 ct_T4 2, w ∈ ct_GW := by decide +kernel
theorem ct_in5 : ∀ w ∈ u_ws ct_R5 ct_T5 13, w ∈ ct_GW := by decide +kernel
end
section
theorem ww_0 : (Jvm.Cond.fieldLink "CraneTurns" (10 : Nat) "CraneTurns" "yard" "LCraneTurns$Yard;") ∈ ct_GW := ct_t1 (List.mem_of_getElem? (i := 210) rfl) rfl
theorem ww_1 : (Jvm.Cond.fieldLink "CraneTurns" (165 : Nat) "CraneTurns$Yard" "nearest" "I") ∈ ct_GW := ct_t1 (List.mem_of_getElem? (i := 136) rfl) rfl
theorem ww_2 : (Jvm.Cond.fieldLink "CraneTurns$Crane" (25 : Nat) "CraneTurns$Crane" "place" "I") ∈ ct_GW := ct_t1 (List.mem_of_getElem? (i := 39) rfl) rfl
theorem ww_3 : (Jvm.Cond.fieldLink "CraneTurns$Crane" (28 : Nat) "CraneTurns$Crane" "low" "I") ∈ ct_GW := ct_t1 (List.mem_of_getElem? (i := 42) rfl) rfl
theorem ww_4 : (Jvm.Cond.fieldLink "CraneTurns$Crane" (31 : Nat) "CraneTurns$Crane" "high" "I") ∈ ct_GW := ct_t1 (List.mem_of_getElem? (i := 44) rfl) rfl
theorem ww_5 : (Jvm.Cond.fieldLink "CraneTurns$Crane" (34 : Nat) "CraneTurns$Job" "from" "I") ∈ ct_GW := ct_t1 (List.mem_of_getElem? (i := 97) rfl) rfl
theorem ww_6 : (Jvm.Cond.code ({ cls := "CraneTurns", name := "within", desc := "(III)Z" } : Jvm.MethodName) prog_1_method_14_code (3 : Nat) (Option.some Jvm.ClassFile.FieldType.boolean)) ∈ ct_GW := ct_t2 (List.mem_of_getElem? (i := 65) rfl) rfl
theorem ww_7 : (Jvm.Cond.static ({ cls := "CraneTurns", name := "within", desc := "(III)Z" } : Jvm.MethodName)) ∈ ct_GW := ct_t2 (List.mem_of_getElem? (i := 64) rfl) rfl
theorem ww_8 : (Jvm.Cond.initialized "CraneTurns") ∈ ct_GW := ct_t1 (List.mem_of_getElem? (i := 1) rfl) rfl
theorem ww_9 : (Jvm.Cond.fieldLink "CraneTurns$Crane" (43 : Nat) "CraneTurns$Job" "to" "I") ∈ ct_GW := ct_t1 (List.mem_of_getElem? (i := 100) rfl) rfl
theorem ww_10 : (Jvm.Cond.fieldLink "CraneTurns$Crane" (15 : Nat) "CraneTurns$Crane" "does" "I") ∈ ct_GW := ct_t1 (List.mem_of_getElem? (i := 52) rfl) rfl
theorem ww_11 : (Jvm.Cond.fieldLink "CraneTurns$Crane" (46 : Nat) "CraneTurns$Crane" "waitingCount" "I") ∈ ct_GW := ct_t1 (List.mem_of_getElem? (i := 64) rfl) rfl
theorem ww_12 : (Jvm.Cond.fieldLink "CraneTurns$Crane" (22 : Nat) "CraneTurns$Crane" "waiting" "[I") ∈ ct_GW := ct_t1 (List.mem_of_getElem? (i := 62) rfl) rfl
theorem ww_13 : (Jvm.Cond.code ({ cls := "CraneTurns$Crane", name := "stand", desc := "(III)V" } : Jvm.MethodName) prog_2_method_2_code (4 : Nat) (Option.none : Option Jvm.ClassFile.FieldType)) ∈ ct_GW := ct_t2 (List.mem_of_getElem? (i := 89) rfl) rfl
theorem ww_14 : (Jvm.Cond.selects "CraneTurns$Crane" ({ cls := "CraneTurns$Crane", name := "stand", desc := "(III)V" } : Jvm.MethodName) ({ cls := "CraneTurns$Crane", name := "stand", desc := "(III)V" } : Jvm.MethodName)) ∈ ct_GW := ct_t2 (List.mem_of_getElem? (i := 88) rfl) rfl
theorem ww_15 : (Jvm.Cond.methodLink "CraneTurns$Crane" (49 : Nat) ({ cls := "CraneTurns$Crane", name := "stand", desc := "(III)V" } : Jvm.MethodName)) ∈ ct_GW := ct_t3 (List.mem_of_getElem? (i := 81) rfl) rfl
theorem ww_16 : (Jvm.Cond.instanceMethod ({ cls := "CraneTurns$Crane", name := "stand", desc := "(III)V" } : Jvm.MethodName)) ∈ ct_GW := ct_t2 (List.mem_of_getElem? (i := 87) rfl) rfl
theorem ww_17 : (Jvm.Cond.initialized "CraneTurns$Crane") ∈ ct_GW := ct_t1 (List.mem_of_getElem? (i := 3) rfl) rfl
theorem ww_18 : (Jvm.Cond.fieldLink "CraneTurns$Crane" (53 : Nat) "CraneTurns$Crane" "isBroken" "Z") ∈ ct_GW := ct_t1 (List.mem_of_getElem? (i := 47) rfl) rfl
theorem ww_19 : (Jvm.Cond.fieldLink "CraneTurns$Crane" (9 : Nat) "CraneTurns$Crane" "atHand" "I") ∈ ct_GW := ct_t1 (List.mem_of_getElem? (i := 49) rfl) rfl
theorem ww_20 : (Jvm.Cond.fieldLink "CraneTurns$Crane" (57 : Nat) "CraneTurns$Crane" "goal" "I") ∈ ct_GW := ct_t1 (List.mem_of_getElem? (i := 55) rfl) rfl
theorem ww_21 : (Jvm.Cond.fieldLink "CraneTurns$Crane" (60 : Nat) "CraneTurns$Crane" "toGo" "I") ∈ ct_GW := ct_t1 (List.mem_of_getElem? (i := 57) rfl) rfl
theorem ww_22 : (Jvm.Cond.fieldLink "CraneTurns$Crane" (18 : Nat) "CraneTurns$Crane" "seconds" "[I") ∈ ct_GW := ct_t1 (List.mem_of_getElem? (i := 59) rfl) rfl
theorem ww_23 : (Jvm.Cond.methodLink "CraneTurns$Crane" (63 : Nat) ({ cls := "java/lang/System", name := "arraycopy", desc := "(Ljava/lang/Object;ILjava/lang/Object;II)V" } : Jvm.MethodName)) ∈ ct_GW := ct_t3 (List.mem_of_getElem? (i := 82) rfl) rfl
theorem ww_24 : (Jvm.Cond.native ({ cls := "java/lang/System", name := "arraycopy", desc := "(Ljava/lang/Object;ILjava/lang/Object;II)V" } : Jvm.MethodName)) ∈ ct_GW := ct_t3 (List.mem_of_getElem? (i := 84) rfl) rfl
theorem ww_25 : (Jvm.Cond.static ({ cls := "java/lang/System", name := "arraycopy", desc := "(Ljava/lang/Object;ILjava/lang/Object;II)V" } : Jvm.MethodName)) ∈ ct_GW := ct_t3 (List.mem_of_getElem? (i := 83) rfl) rfl
theorem ww_26 : (Jvm.Cond.initialized "java/lang/System") ∈ ct_GW := ct_t1 (List.mem_of_getElem? (i := 15) rfl) rfl
theorem ww_27 : (Jvm.Cond.fieldLink "CraneTurns$Job" (21 : Nat) "CraneTurns$Job" "from" "I") ∈ ct_GW := ct_t1 (List.mem_of_getElem? (i := 96) rfl) rfl
theorem ww_28 : (Jvm.Cond.fieldLink "CraneTurns$Job" (24 : Nat) "CraneTurns$Job" "to" "I") ∈ ct_GW := ct_t1 (List.mem_of_getElem? (i := 99) rfl) rfl
theorem ww_29 : (Jvm.Cond.fieldLink "CraneTurns$Job" (27 : Nat) "CraneTurns$Job" "ready" "I") ∈ ct_GW := ct_t1 (List.mem_of_getElem? (i := 102) rfl) rfl
theorem ww_30 : (Jvm.Cond.fieldLink "CraneTurns$Job" (9 : Nat) "CraneTurns$Job" "stands" "I") ∈ ct_GW := ct_t1 (List.mem_of_getElem? (i := 104) rfl) rfl
theorem ww_31 : (Jvm.Cond.fieldLink "CraneTurns$Job" (15 : Nat) "CraneTurns$Job" "owner" "I") ∈ ct_GW := ct_t1 (List.mem_of_getElem? (i := 108) rfl) rfl
theorem ww_32 : (Jvm.Cond.fieldLink "CraneTurns$Job" (18 : Nat) "CraneTurns$Job" "doneAt" "I") ∈ ct_GW := ct_t1 (List.mem_of_getElem? (i := 111) rfl) rfl
theorem ww_33 : (Jvm.Cond.code ({ cls := "CraneTurns$Yard", name := "countFree", desc := "()I" } : Jvm.MethodName) prog_5_method_7_code (3 : Nat) (Option.some Jvm.ClassFile.FieldType.int)) ∈ ct_GW := ct_t3 (List.mem_of_getElem? (i := 57) rfl) rfl
theorem ww_34 : (Jvm.Cond.selects "CraneTurns$Yard" ({ cls := "CraneTurns$Yard", name := "countFree", desc := "()I" } : Jvm.MethodName) ({ cls := "CraneTurns$Yard", name := "countFree", desc := "()I" } : Jvm.MethodName)) ∈ ct_GW := ct_t3 (List.mem_of_getElem? (i := 56) rfl) rfl
theorem ww_35 : (Jvm.Cond.methodLink "CraneTurns$Planner" (32 : Nat) ({ cls := "CraneTurns$Yard", name := "countFree", desc := "()I" } : Jvm.MethodName)) ∈ ct_GW := ct_t3 (List.mem_of_getElem? (i := 63) rfl) rfl
theorem ww_36 : (Jvm.Cond.instanceMethod ({ cls := "CraneTurns$Yard", name := "countFree", desc := "()I" } : Jvm.MethodName)) ∈ ct_GW := ct_t3 (List.mem_of_getElem? (i := 55) rfl) rfl
theorem ww_37 : (Jvm.Cond.initialized "CraneTurns$Yard") ∈ ct_GW := ct_t1 (List.mem_of_getElem? (i := 2) rfl) rfl
theorem ww_38 : (Jvm.Cond.methodLink "CraneTurns$Planner" (36 : Nat) ({ cls := "java/lang/Math", name := "min", desc := "(II)I" } : Jvm.MethodName)) ∈ ct_GW := ct_t3 (List.mem_of_getElem? (i := 64) rfl) rfl
theorem ww_39 : (Jvm.Cond.static ({ cls := "java/lang/Math", name := "min", desc := "(II)I" } : Jvm.MethodName)) ∈ ct_GW := ct_t3 (List.mem_of_getElem? (i := 18) rfl) rfl
theorem ww_40 : (Jvm.Cond.initialized "java/lang/Math") ∈ ct_GW := ct_t1 (List.mem_of_getElem? (i := 14) rfl) rfl
theorem ww_41 : (Jvm.Cond.code ({ cls := "java/lang/Math", name := "min", desc := "(II)I" } : Jvm.MethodName) prog_12_method_69_code (2 : Nat) (Option.some Jvm.ClassFile.FieldType.int)) ∈ ct_GW := ct_t3 (List.mem_of_getElem? (i := 19) rfl) rfl
theorem ww_42 : (Jvm.Cond.fieldLink "CraneTurns$Planner" (42 : Nat) "CraneTurns$Planner" "givings" "I") ∈ ct_GW := ct_t1 (List.mem_of_getElem? (i := 186) rfl) rfl
theorem ww_43 : (Jvm.Cond.fieldLink "CraneTurns$Planner" (46 : Nat) "CraneTurns$Planner" "bestCount" "I") ∈ ct_GW := ct_t1 (List.mem_of_getElem? (i := 187) rfl) rfl
theorem ww_44 : (Jvm.Cond.fieldLink "CraneTurns$Planner" (49 : Nat) "CraneTurns$Planner" "bestSeconds" "I") ∈ ct_GW := ct_t1 (List.mem_of_getElem? (i := 188) rfl) rfl
theorem ww_45 : (Jvm.Cond.fieldLink "CraneTurns$Planner" (52 : Nat) "CraneTurns$Planner" "limit" "I") ∈ ct_GW := ct_t1 (List.mem_of_getElem? (i := 189) rfl) rfl
theorem ww_46 : (Jvm.Cond.code ({ cls := "CraneTurns$Planner", name := "extendWay", desc := "(LCraneTurns$Yard;I)V" } : Jvm.MethodName) prog_4_method_4_code (5 : Nat) (Option.none : Option Jvm.ClassFile.FieldType)) ∈ ct_GW := ct_t3 (List.mem_of_getElem? (i := 68) rfl) rfl
theorem ww_47 : (Jvm.Cond.methodLink "CraneTurns$Planner" (55 : Nat) ({ cls := "CraneTurns$Planner", name := "extendWay", desc := "(LCraneTurns$Yard;I)V" } : Jvm.MethodName)) ∈ ct_GW := ct_t3 (List.mem_of_getElem? (i := 65) rfl) rfl
theorem ww_48 : (Jvm.Cond.instanceMethod ({ cls := "CraneTurns$Planner", name := "extendWay", desc := "(LCraneTurns$Yard;I)V" } : Jvm.MethodName)) ∈ ct_GW := ct_t3 (List.mem_of_getElem? (i := 67) rfl) rfl
theorem ww_49 : (Jvm.Cond.initialized "CraneTurns$Planner") ∈ ct_GW := ct_t1 (List.mem_of_getElem? (i := 5) rfl) rfl
theorem ww_50 : (Jvm.Cond.fieldLink "CraneTurns$Planner" (29 : Nat) "CraneTurns$Planner" "best" "[I") ∈ ct_GW := ct_t1 (List.mem_of_getElem? (i := 185) rfl) rfl
theorem ww_51 : (Jvm.Cond.code ({ cls := "CraneTurns$Planner", name := "tryWay", desc := "(LCraneTurns$Yard;)V" } : Jvm.MethodName) prog_4_method_6_code (3 : Nat) (Option.none : Option Jvm.ClassFile.FieldType)) ∈ ct_GW := ct_t3 (List.mem_of_getElem? (i := 72) rfl) rfl
theorem ww_52 : (Jvm.Cond.methodLink "CraneTurns$Planner" (63 : Nat) ({ cls := "CraneTurns$Planner", name := "tryWay", desc := "(LCraneTurns$Yard;)V" } : Jvm.MethodName)) ∈ ct_GW := ct_t3 (List.mem_of_getElem? (i := 69) rfl) rfl
theorem ww_53 : (Jvm.Cond.instanceMethod ({ cls := "CraneTurns$Planner", name := "tryWay", desc := "(LCraneTurns$Yard;)V" } : Jvm.MethodName)) ∈ ct_GW := ct_t3 (List.mem_of_getElem? (i := 71) rfl) rfl
theorem ww_54 : (Jvm.Cond.fieldLink "CraneTurns$Planner" (67 : Nat) "CraneTurns$Yard" "jobCount" "I") ∈ ct_GW := ct_t1 (List.mem_of_getElem? (i := 138) rfl) rfl
theorem ww_55 : (Jvm.Cond.fieldLink "CraneTurns$Planner" (70 : Nat) "CraneTurns$Yard" "jobs" "[LCraneTurns$Job;") ∈ ct_GW := ct_t1 (List.mem_of_getElem? (i := 148) rfl) rfl
theorem ww_56 : (Jvm.Cond.fieldLink "CraneTurns$Planner" (74 : Nat) "CraneTurns$Job" "stands" "I") ∈ ct_GW := ct_t1 (List.mem_of_getElem? (i := 105) rfl) rfl
theorem ww_57 : (Jvm.Cond.fieldLink "CraneTurns$Planner" (18 : Nat) "CraneTurns$Planner" "inWay" "[Z") ∈ ct_GW := ct_t1 (List.mem_of_getElem? (i := 182) rfl) rfl
theorem ww_58 : (Jvm.Cond.fieldLink "CraneTurns$Planner" (79 : Nat) "CraneTurns$Yard" "craneCount" "I") ∈ ct_GW := ct_t1 (List.mem_of_getElem? (i := 128) rfl) rfl
theorem ww_59 : (Jvm.Cond.fieldLink "CraneTurns$Planner" (82 : Nat) "CraneTurns$Yard" "cranes" "[LCraneTurns$Crane;") ∈ ct_GW := ct_t1 (List.mem_of_getElem? (i := 146) rfl) rfl
theorem ww_60 : (Jvm.Cond.code ({ cls := "CraneTurns$Crane", name := "reaches", desc := "(LCraneTurns$Job;)Z" } : Jvm.MethodName) prog_2_method_3_code (2 : Nat) (Option.some Jvm.ClassFile.FieldType.boolean)) ∈ ct_GW := ct_t2 (List.mem_of_getElem? (i := 185) rfl) rfl
theorem ww_61 : (Jvm.Cond.selects "CraneTurns$Crane" ({ cls := "CraneTurns$Crane", name := "reaches", desc := "(LCraneTurns$Job;)Z" } : Jvm.MethodName) ({ cls := "CraneTurns$Crane", name := "reaches", desc := "(LCraneTurns$Job;)Z" } : Jvm.MethodName)) ∈ ct_GW := ct_t2 (List.mem_of_getElem? (i := 184) rfl) rfl
theorem ww_62 : (Jvm.Cond.methodLink "CraneTurns$Planner" (86 : Nat) ({ cls := "CraneTurns$Crane", name := "reaches", desc := "(LCraneTurns$Job;)Z" } : Jvm.MethodName)) ∈ ct_GW := ct_t3 (List.mem_of_getElem? (i := 95) rfl) rfl
theorem ww_63 : (Jvm.Cond.instanceMethod ({ cls := "CraneTurns$Crane", name := "reaches", desc := "(LCraneTurns$Job;)Z" } : Jvm.MethodName)) ∈ ct_GW := ct_t2 (List.mem_of_getElem? (i := 183) rfl) rfl
theorem ww_64 : (Jvm.Cond.code ({ cls := "CraneTurns$Planner", name := "isTriedAlready", desc := "(III)Z" } : Jvm.MethodName) prog_4_method_5_code (4 : Nat) (Option.some Jvm.ClassFile.FieldType.boolean)) ∈ ct_GW := ct_t3 (List.mem_of_getElem? (i := 99) rfl) rfl
theorem ww_65 : (Jvm.Cond.methodLink "CraneTurns$Planner" (92 : Nat) ({ cls := "CraneTurns$Planner", name := "isTriedAlready", desc := "(III)Z" } : Jvm.MethodName)) ∈ ct_GW := ct_t3 (List.mem_of_getElem? (i := 96) rfl) rfl
theorem ww_66 : (Jvm.Cond.instanceMethod ({ cls := "CraneTurns$Planner", name := "isTriedAlready", desc := "(III)Z" } : Jvm.MethodName)) ∈ ct_GW := ct_t3 (List.mem_of_getElem? (i := 98) rfl) rfl
theorem ww_67 : (Jvm.Cond.fieldLink "CraneTurns$Planner" (22 : Nat) "CraneTurns$Planner" "wayJobs" "[I") ∈ ct_GW := ct_t1 (List.mem_of_getElem? (i := 183) rfl) rfl
theorem ww_68 : (Jvm.Cond.fieldLink "CraneTurns$Planner" (26 : Nat) "CraneTurns$Planner" "wayCranes" "[I") ∈ ct_GW := ct_t1 (List.mem_of_getElem? (i := 184) rfl) rfl
theorem ww_69 : (Jvm.Cond.fieldLink "CraneTurns$Planner" (12 : Nat) "CraneTurns$Planner" "trial" "LCraneTurns$Yard;") ∈ ct_GW := ct_t1 (List.mem_of_getElem? (i := 181) rfl) rfl
theorem ww_70 : (Jvm.Cond.code ({ cls := "CraneTurns$Yard", name := "copyOf", desc := "(LCraneTurns$Yard;)V" } : Jvm.MethodName) prog_5_method_19_code (3 : Nat) (Option.none : Option Jvm.ClassFile.FieldType)) ∈ ct_GW := ct_t3 (List.mem_of_getElem? (i := 76) rfl) rfl
theorem ww_71 : (Jvm.Cond.selects "CraneTurns$Yard" ({ cls := "CraneTurns$Yard", name := "copyOf", desc := "(LCraneTurns$Yard;)V" } : Jvm.MethodName) ({ cls := "CraneTurns$Yard", name := "copyOf", desc := "(LCraneTurns$Yard;)V" } : Jvm.MethodName)) ∈ ct_GW := ct_t3 (List.mem_of_getElem? (i := 75) rfl) rfl
theorem ww_72 : (Jvm.Cond.methodLink "CraneTurns$Planner" (95 : Nat) ({ cls := "CraneTurns$Yard", name := "copyOf", desc := "(LCraneTurns$Yard;)V" } : Jvm.MethodName)) ∈ ct_GW := ct_t3 (List.mem_of_getElem? (i := 73) rfl) rfl
theorem ww_73 : (Jvm.Cond.instanceMethod ({ cls := "CraneTurns$Yard", name := "copyOf", desc := "(LCraneTurns$Yard;)V" } : Jvm.MethodName)) ∈ ct_GW := ct_t3 (List.mem_of_getElem? (i := 74) rfl) rfl
theorem ww_74 : (Jvm.Cond.code ({ cls := "CraneTurns$Yard", name := "hand", desc := "(II)V" } : Jvm.MethodName) prog_5_method_5_code (3 : Nat) (Option.none : Option Jvm.ClassFile.FieldType)) ∈ ct_GW := ct_t2 (List.mem_of_getElem? (i := 191) rfl) rfl
theorem ww_75 : (Jvm.Cond.selects "CraneTurns$Yard" ({ cls := "CraneTurns$Yard", name := "hand", desc := "(II)V" } : Jvm.MethodName) ({ cls := "CraneTurns$Yard", name := "hand", desc := "(II)V" } : Jvm.MethodName)) ∈ ct_GW := ct_t2 (List.mem_of_getElem? (i := 190) rfl) rfl
theorem ww_76 : (Jvm.Cond.methodLink "CraneTurns$Planner" (98 : Nat) ({ cls := "CraneTurns$Yard", name := "hand", desc := "(II)V" } : Jvm.MethodName)) ∈ ct_GW := ct_t3 (List.mem_of_getElem? (i := 89) rfl) rfl
theorem ww_77 : (Jvm.Cond.instanceMethod ({ cls := "CraneTurns$Yard", name := "hand", desc := "(II)V" } : Jvm.MethodName)) ∈ ct_GW := ct_t2 (List.mem_of_getElem? (i := 189) rfl) rfl
theorem ww_78 : (Jvm.Cond.fieldLink "CraneTurns$Planner" (102 : Nat) "CraneTurns$Yard" "openJobs" "I") ∈ ct_GW := ct_t1 (List.mem_of_getElem? (i := 141) rfl) rfl
theorem ww_79 : (Jvm.Cond.code ({ cls := "CraneTurns$Yard", name := "passSecond", desc := "()V" } : Jvm.MethodName) prog_5_method_11_code (2 : Nat) (Option.none : Option Jvm.ClassFile.FieldType)) ∈ ct_GW := ct_t2 (List.mem_of_getElem? (i := 232) rfl) rfl
theorem ww_80 : (Jvm.Cond.selects "CraneTurns$Yard" ({ cls := "CraneTurns$Yard", name := "passSecond", desc := "()V" } : Jvm.MethodName) ({ cls := "CraneTurns$Yard", name := "passSecond", desc := "()V" } : Jvm.MethodName)) ∈ ct_GW := ct_t2 (List.mem_of_getElem? (i := 231) rfl) rfl
theorem ww_81 : (Jvm.Cond.methodLink "CraneTurns$Planner" (105 : Nat) ({ cls := "CraneTurns$Yard", name := "passSecond", desc := "()V" } : Jvm.MethodName)) ∈ ct_GW := ct_t3 (List.mem_of_getElem? (i := 90) rfl) rfl
theorem ww_82 : (Jvm.Cond.instanceMethod ({ cls := "CraneTurns$Yard", name := "passSecond", desc := "()V" } : Jvm.MethodName)) ∈ ct_GW := ct_t2 (List.mem_of_getElem? (i := 230) rfl) rfl
theorem ww_83 : (Jvm.Cond.code ({ cls := "CraneTurns$Planner", name := "keepWay", desc := "(I)V" } : Jvm.MethodName) prog_4_method_7_code (3 : Nat) (Option.none : Option Jvm.ClassFile.FieldType)) ∈ ct_GW := ct_t3 (List.mem_of_getElem? (i := 94) rfl) rfl
theorem ww_84 : (Jvm.Cond.methodLink "CraneTurns$Planner" (108 : Nat) ({ cls := "CraneTurns$Planner", name := "keepWay", desc := "(I)V" } : Jvm.MethodName)) ∈ ct_GW := ct_t3 (List.mem_of_getElem? (i := 91) rfl) rfl
theorem ww_85 : (Jvm.Cond.instanceMethod ({ cls := "CraneTurns$Planner", name := "keepWay", desc := "(I)V" } : Jvm.MethodName)) ∈ ct_GW := ct_t3 (List.mem_of_getElem? (i := 93) rfl) rfl
theorem ww_86 : (Jvm.Cond.fieldLink "CraneTurns$Yard" (29 : Nat) "CraneTurns$Yard" "craneCount" "I") ∈ ct_GW := ct_t1 (List.mem_of_getElem? (i := 127) rfl) rfl
theorem ww_87 : (Jvm.Cond.fieldLink "CraneTurns$Yard" (32 : Nat) "CraneTurns$Yard" "gap" "I") ∈ ct_GW := ct_t1 (List.mem_of_getElem? (i := 130) rfl) rfl
theorem ww_88 : (Jvm.Cond.fieldLink "CraneTurns$Yard" (35 : Nat) "CraneTurns$Yard" "speed" "I") ∈ ct_GW := ct_t1 (List.mem_of_getElem? (i := 131) rfl) rfl
theorem ww_89 : (Jvm.Cond.fieldLink "CraneTurns$Yard" (38 : Nat) "CraneTurns$Yard" "lift" "I") ∈ ct_GW := ct_t1 (List.mem_of_getElem? (i := 132) rfl) rfl
theorem ww_90 : (Jvm.Cond.fieldLink "CraneTurns$Yard" (17 : Nat) "CraneTurns$Yard" "cranes" "[LCraneTurns$Crane;") ∈ ct_GW := ct_t1 (List.mem_of_getElem? (i := 144) rfl) rfl
theorem ww_91 : (Jvm.Cond.methodLink "CraneTurns$Yard" (41 : Nat) ({ cls := "CraneTurns$Crane", name := "stand", desc := "(III)V" } : Jvm.MethodName)) ∈ ct_GW := ct_t2 (List.mem_of_getElem? (i := 86) rfl) rfl
theorem ww_92 : (Jvm.Cond.fieldLink "CraneTurns$Yard" (45 : Nat) "CraneTurns$Yard" "jobCount" "I") ∈ ct_GW := ct_t1 (List.mem_of_getElem? (i := 137) rfl) rfl
theorem ww_93 : (Jvm.Cond.fieldLink "CraneTurns$Yard" (23 : Nat) "CraneTurns$Yard" "jobs" "[LCraneTurns$Job;") ∈ ct_GW := ct_t1 (List.mem_of_getElem? (i := 147) rfl) rfl
theorem ww_94 : (Jvm.Cond.fieldLink "CraneTurns$Yard" (48 : Nat) "CraneTurns$Job" "from" "I") ∈ ct_GW := ct_t1 (List.mem_of_getElem? (i := 98) rfl) rfl
theorem ww_95 : (Jvm.Cond.fieldLink "CraneTurns$Yard" (51 : Nat) "CraneTurns$Job" "to" "I") ∈ ct_GW := ct_t1 (List.mem_of_getElem? (i := 101) rfl) rfl
theorem ww_96 : (Jvm.Cond.fieldLink "CraneTurns$Yard" (54 : Nat) "CraneTurns$Job" "ready" "I") ∈ ct_GW := ct_t1 (List.mem_of_getElem? (i := 103) rfl) rfl
theorem ww_97 : (Jvm.Cond.fieldLink "CraneTurns$Yard" (57 : Nat) "CraneTurns$Yard" "openJobs" "I") ∈ ct_GW := ct_t1 (List.mem_of_getElem? (i := 140) rfl) rfl
theorem ww_98 : (Jvm.Cond.fieldLink "CraneTurns$Yard" (60 : Nat) "CraneTurns$Job" "stands" "I") ∈ ct_GW := ct_t1 (List.mem_of_getElem? (i := 106) rfl) rfl
theorem ww_99 : (Jvm.Cond.fieldLink "CraneTurns$Yard" (63 : Nat) "CraneTurns$Job" "owner" "I") ∈ ct_GW := ct_t1 (List.mem_of_getElem? (i := 109) rfl) rfl
theorem ww_100 : (Jvm.Cond.code ({ cls := "CraneTurns$Crane", name := "queue", desc := "(I)V" } : Jvm.MethodName) prog_2_method_5_code (2 : Nat) (Option.none : Option Jvm.ClassFile.FieldType)) ∈ ct_GW := ct_t2 (List.mem_of_getElem? (i := 195) rfl) rfl
theorem ww_101 : (Jvm.Cond.selects "CraneTurns$Crane" ({ cls := "CraneTurns$Crane", name := "queue", desc := "(I)V" } : Jvm.MethodName) ({ cls := "CraneTurns$Crane", name := "queue", desc := "(I)V" } : Jvm.MethodName)) ∈ ct_GW := ct_t2 (List.mem_of_getElem? (i := 194) rfl) rfl
theorem ww_102 : (Jvm.Cond.methodLink "CraneTurns$Yard" (66 : Nat) ({ cls := "CraneTurns$Crane", name := "queue", desc := "(I)V" } : Jvm.MethodName)) ∈ ct_GW := ct_t2 (List.mem_of_getElem? (i := 192) rfl) rfl
theorem ww_103 : (Jvm.Cond.instanceMethod ({ cls := "CraneTurns$Crane", name := "queue", desc := "(I)V" } : Jvm.MethodName)) ∈ ct_GW := ct_t2 (List.mem_of_getElem? (i := 193) rfl) rfl
theorem ww_104 : (Jvm.Cond.fieldLink "CraneTurns$Yard" (70 : Nat) "CraneTurns$Yard" "givenEver" "Z") ∈ ct_GW := ct_t1 (List.mem_of_getElem? (i := 143) rfl) rfl
theorem ww_105 : (Jvm.Cond.code ({ cls := "CraneTurns$Crane", name := "unqueue", desc := "(I)V" } : Jvm.MethodName) prog_2_method_6_code (4 : Nat) (Option.none : Option Jvm.ClassFile.FieldType)) ∈ ct_GW := ct_t2 (List.mem_of_getElem? (i := 211) rfl) rfl
theorem ww_106 : (Jvm.Cond.selects "CraneTurns$Crane" ({ cls := "CraneTurns$Crane", name := "unqueue", desc := "(I)V" } : Jvm.MethodName) ({ cls := "CraneTurns$Crane", name := "unqueue", desc := "(I)V" } : Jvm.MethodName)) ∈ ct_GW := ct_t2 (List.mem_of_getElem? (i := 210) rfl) rfl
theorem ww_107 : (Jvm.Cond.methodLink "CraneTurns$Yard" (78 : Nat) ({ cls := "CraneTurns$Crane", name := "unqueue", desc := "(I)V" } : Jvm.MethodName)) ∈ ct_GW := ct_t2 (List.mem_of_getElem? (i := 208) rfl) rfl
theorem ww_108 : (Jvm.Cond.instanceMethod ({ cls := "CraneTurns$Crane", name := "unqueue", desc := "(I)V" } : Jvm.MethodName)) ∈ ct_GW := ct_t2 (List.mem_of_getElem? (i := 209) rfl) rfl
theorem ww_109 : (Jvm.Cond.fieldLink "CraneTurns$Yard" (81 : Nat) "CraneTurns$Crane" "place" "I") ∈ ct_GW := ct_t1 (List.mem_of_getElem? (i := 40) rfl) rfl
theorem ww_110 : (Jvm.Cond.code ({ cls := "CraneTurns$Yard", name := "floorOf", desc := "(I)I" } : Jvm.MethodName) prog_5_method_8_code (2 : Nat) (Option.some Jvm.ClassFile.FieldType.int)) ∈ ct_GW := ct_t2 (List.mem_of_getElem? (i := 128) rfl) rfl
theorem ww_111 : (Jvm.Cond.methodLink "CraneTurns$Yard" (84 : Nat) ({ cls := "CraneTurns$Yard", name := "floorOf", desc := "(I)I" } : Jvm.MethodName)) ∈ ct_GW := ct_t2 (List.mem_of_getElem? (i := 125) rfl) rfl
theorem ww_112 : (Jvm.Cond.instanceMethod ({ cls := "CraneTurns$Yard", name := "floorOf", desc := "(I)I" } : Jvm.MethodName)) ∈ ct_GW := ct_t2 (List.mem_of_getElem? (i := 127) rfl) rfl
theorem ww_113 : (Jvm.Cond.code ({ cls := "CraneTurns$Yard", name := "ceilingOf", desc := "(I)I" } : Jvm.MethodName) prog_5_method_9_code (2 : Nat) (Option.some Jvm.ClassFile.FieldType.int)) ∈ ct_GW := ct_t2 (List.mem_of_getElem? (i := 132) rfl) rfl
theorem ww_114 : (Jvm.Cond.methodLink "CraneTurns$Yard" (88 : Nat) ({ cls := "CraneTurns$Yard", name := "ceilingOf", desc := "(I)I" } : Jvm.MethodName)) ∈ ct_GW := ct_t2 (List.mem_of_getElem? (i := 129) rfl) rfl
theorem ww_115 : (Jvm.Cond.instanceMethod ({ cls := "CraneTurns$Yard", name := "ceilingOf", desc := "(I)I" } : Jvm.MethodName)) ∈ ct_GW := ct_t2 (List.mem_of_getElem? (i := 131) rfl) rfl
theorem ww_116 : (Jvm.Cond.fieldLink "CraneTurns$Yard" (91 : Nat) "CraneTurns$Crane" "seconds" "[I") ∈ ct_GW := ct_t1 (List.mem_of_getElem? (i := 61) rfl) rfl
theorem ww_117 : (Jvm.Cond.code ({ cls := "CraneTurns$Yard", name := "passSecondOf", desc := "(I)I" } : Jvm.MethodName) prog_5_method_12_code (4 : Nat) (Option.some Jvm.ClassFile.FieldType.int)) ∈ ct_GW := ct_t2 (List.mem_of_getElem? (i := 236) rfl) rfl
theorem ww_118 : (Jvm.Cond.methodLink "CraneTurns$Yard" (95 : Nat) ({ cls := "CraneTurns$Yard", name := "passSecondOf", desc := "(I)I" } : Jvm.MethodName)) ∈ ct_GW := ct_t2 (List.mem_of_getElem? (i := 233) rfl) rfl
theorem ww_119 : (Jvm.Cond.instanceMethod ({ cls := "CraneTurns$Yard", name := "passSecondOf", desc := "(I)I" } : Jvm.MethodName)) ∈ ct_GW := ct_t2 (List.mem_of_getElem? (i := 235) rfl) rfl
theorem ww_120 : (Jvm.Cond.fieldLink "CraneTurns$Yard" (98 : Nat) "CraneTurns$Yard" "clock" "I") ∈ ct_GW := ct_t1 (List.mem_of_getElem? (i := 134) rfl) rfl
theorem ww_121 : (Jvm.Cond.fieldLink "CraneTurns$Yard" (9 : Nat) "CraneTurns$Yard" "nearest" "I") ∈ ct_GW := ct_t1 (List.mem_of_getElem? (i := 135) rfl) rfl
theorem ww_122 : (Jvm.Cond.methodLink "CraneTurns$Yard" (101 : Nat) ({ cls := "java/lang/Math", name := "min", desc := "(II)I" } : Jvm.MethodName)) ∈ ct_GW := ct_t3 (List.mem_of_getElem? (i := 17) rfl) rfl
theorem ww_123 : (Jvm.Cond.fieldLink "CraneTurns$Yard" (107 : Nat) "CraneTurns$Crane" "isBroken" "Z") ∈ ct_GW := ct_t1 (List.mem_of_getElem? (i := 48) rfl) rfl
theorem ww_124 : (Jvm.Cond.fieldLink "CraneTurns$Yard" (110 : Nat) "CraneTurns$Crane" "atHand" "I") ∈ ct_GW := ct_t1 (List.mem_of_getElem? (i := 51) rfl) rfl
theorem ww_125 : (Jvm.Cond.code ({ cls := "CraneTurns$Yard", name := "takeFirst", desc := "(LCraneTurns$Crane;)V" } : Jvm.MethodName) prog_5_method_13_code (3 : Nat) (Option.none : Option Jvm.ClassFile.FieldType)) ∈ ct_GW := ct_t3 (List.mem_of_getElem? (i := 0) rfl) rfl
theorem ww_126 : (Jvm.Cond.methodLink "CraneTurns$Yard" (113 : Nat) ({ cls := "CraneTurns$Yard", name := "takeFirst", desc := "(LCraneTurns$Crane;)V" } : Jvm.MethodName)) ∈ ct_GW := ct_t2 (List.mem_of_getElem? (i := 237) rfl) rfl
theorem ww_127 : (Jvm.Cond.instanceMethod ({ cls := "CraneTurns$Yard", name := "takeFirst", desc := "(LCraneTurns$Crane;)V" } : Jvm.MethodName)) ∈ ct_GW := ct_t2 (List.mem_of_getElem? (i := 239) rfl) rfl
theorem ww_128 : (Jvm.Cond.fieldLink "CraneTurns$Yard" (117 : Nat) "CraneTurns$Crane" "does" "I") ∈ ct_GW := ct_t1 (List.mem_of_getElem? (i := 54) rfl) rfl
theorem ww_129 : (Jvm.Cond.code ({ cls := "CraneTurns$Yard", name := "liftOn", desc := "(LCraneTurns$Crane;)V" } : Jvm.MethodName) prog_5_method_15_code (2 : Nat) (Option.none : Option Jvm.ClassFile.FieldType)) ∈ ct_GW := ct_t3 (List.mem_of_getElem? (i := 8) rfl) rfl
theorem ww_130 : (Jvm.Cond.methodLink "CraneTurns$Yard" (120 : Nat) ({ cls := "CraneTurns$Yard", name := "liftOn", desc := "(LCraneTurns$Crane;)V" } : Jvm.MethodName)) ∈ ct_GW := ct_t3 (List.mem_of_getElem? (i := 5) rfl) rfl
theorem ww_131 : (Jvm.Cond.instanceMethod ({ cls := "CraneTurns$Yard", name := "liftOn", desc := "(LCraneTurns$Crane;)V" } : Jvm.MethodName)) ∈ ct_GW := ct_t3 (List.mem_of_getElem? (i := 7) rfl) rfl
theorem ww_132 : (Jvm.Cond.code ({ cls := "CraneTurns$Yard", name := "setOn", desc := "(LCraneTurns$Crane;)V" } : Jvm.MethodName) prog_5_method_16_code (2 : Nat) (Option.none : Option Jvm.ClassFile.FieldType)) ∈ ct_GW := ct_t3 (List.mem_of_getElem? (i := 12) rfl) rfl
theorem ww_133 : (Jvm.Cond.methodLink "CraneTurns$Yard" (123 : Nat) ({ cls := "CraneTurns$Yard", name := "setOn", desc := "(LCraneTurns$Crane;)V" } : Jvm.MethodName)) ∈ ct_GW := ct_t3 (List.mem_of_getElem? (i := 9) rfl) rfl
theorem ww_134 : (Jvm.Cond.instanceMethod ({ cls := "CraneTurns$Yard", name := "setOn", desc := "(LCraneTurns$Crane;)V" } : Jvm.MethodName)) ∈ ct_GW := ct_t3 (List.mem_of_getElem? (i := 11) rfl) rfl
theorem ww_135 : (Jvm.Cond.fieldLink "CraneTurns$Yard" (126 : Nat) "CraneTurns$Crane" "goal" "I") ∈ ct_GW := ct_t1 (List.mem_of_getElem? (i := 56) rfl) rfl
theorem ww_136 : (Jvm.Cond.code ({ cls := "CraneTurns$Yard", name := "moveToward", desc := "(II)V" } : Jvm.MethodName) prog_5_method_18_code (4 : Nat) (Option.none : Option Jvm.ClassFile.FieldType)) ∈ ct_GW := ct_t3 (List.mem_of_getElem? (i := 16) rfl) rfl
theorem ww_137 : (Jvm.Cond.methodLink "CraneTurns$Yard" (129 : Nat) ({ cls := "CraneTurns$Yard", name := "moveToward", desc := "(II)V" } : Jvm.MethodName)) ∈ ct_GW := ct_t3 (List.mem_of_getElem? (i := 13) rfl) rfl
theorem ww_138 : (Jvm.Cond.instanceMethod ({ cls := "CraneTurns$Yard", name := "moveToward", desc := "(II)V" } : Jvm.MethodName)) ∈ ct_GW := ct_t3 (List.mem_of_getElem? (i := 15) rfl) rfl
theorem ww_139 : (Jvm.Cond.code ({ cls := "CraneTurns$Yard", name := "handleIfThere", desc := "(LCraneTurns$Crane;)V" } : Jvm.MethodName) prog_5_method_14_code (2 : Nat) (Option.none : Option Jvm.ClassFile.FieldType)) ∈ ct_GW := ct_t3 (List.mem_of_getElem? (i := 4) rfl) rfl
theorem ww_140 : (Jvm.Cond.methodLink "CraneTurns$Yard" (133 : Nat) ({ cls := "CraneTurns$Yard", name := "handleIfThere", desc := "(LCraneTurns$Crane;)V" } : Jvm.MethodName)) ∈ ct_GW := ct_t3 (List.mem_of_getElem? (i := 1) rfl) rfl
theorem ww_141 : (Jvm.Cond.instanceMethod ({ cls := "CraneTurns$Yard", name := "handleIfThere", desc := "(LCraneTurns$Crane;)V" } : Jvm.MethodName)) ∈ ct_GW := ct_t3 (List.mem_of_getElem? (i := 3) rfl) rfl
theorem ww_142 : (Jvm.Cond.code ({ cls := "CraneTurns$Yard", name := "placeOutOfTheWay", desc := "(I)I" } : Jvm.MethodName) prog_5_method_17_code (3 : Nat) (Option.some Jvm.ClassFile.FieldType.int)) ∈ ct_GW := ct_t3 (List.mem_of_getElem? (i := 26) rfl) rfl
theorem ww_143 : (Jvm.Cond.methodLink "CraneTurns$Yard" (136 : Nat) ({ cls := "CraneTurns$Yard", name := "placeOutOfTheWay", desc := "(I)I" } : Jvm.MethodName)) ∈ ct_GW := ct_t3 (List.mem_of_getElem? (i := 23) rfl) rfl
theorem ww_144 : (Jvm.Cond.instanceMethod ({ cls := "CraneTurns$Yard", name := "placeOutOfTheWay", desc := "(I)I" } : Jvm.MethodName)) ∈ ct_GW := ct_t3 (List.mem_of_getElem? (i := 25) rfl) rfl
theorem ww_145 : (Jvm.Cond.fieldLink "CraneTurns$Yard" (139 : Nat) "CraneTurns$Crane" "waitingCount" "I") ∈ ct_GW := ct_t1 (List.mem_of_getElem? (i := 66) rfl) rfl
theorem ww_146 : (Jvm.Cond.fieldLink "CraneTurns$Yard" (142 : Nat) "CraneTurns$Crane" "waiting" "[I") ∈ ct_GW := ct_t1 (List.mem_of_getElem? (i := 63) rfl) rfl
theorem ww_147 : (Jvm.Cond.fieldLink "CraneTurns$Yard" (145 : Nat) "CraneTurns$Crane" "toGo" "I") ∈ ct_GW := ct_t1 (List.mem_of_getElem? (i := 58) rfl) rfl
theorem ww_148 : (Jvm.Cond.fieldLink "CraneTurns$Yard" (148 : Nat) "CraneTurns$Job" "doneAt" "I") ∈ ct_GW := ct_t1 (List.mem_of_getElem? (i := 113) rfl) rfl
theorem ww_149 : (Jvm.Cond.code ({ cls := "CraneTurns$Crane", name := "hasGoal", desc := "()Z" } : Jvm.MethodName) prog_2_method_4_code (1 : Nat) (Option.some Jvm.ClassFile.FieldType.boolean)) ∈ ct_GW := ct_t3 (List.mem_of_getElem? (i := 30) rfl) rfl
theorem ww_150 : (Jvm.Cond.selects "CraneTurns$Crane" ({ cls := "CraneTurns$Crane", name := "hasGoal", desc := "()Z" } : Jvm.MethodName) ({ cls := "CraneTurns$Crane", name := "hasGoal", desc := "()Z" } : Jvm.MethodName)) ∈ ct_GW := ct_t3 (List.mem_of_getElem? (i := 29) rfl) rfl
theorem ww_151 : (Jvm.Cond.methodLink "CraneTurns$Yard" (151 : Nat) ({ cls := "CraneTurns$Crane", name := "hasGoal", desc := "()Z" } : Jvm.MethodName)) ∈ ct_GW := ct_t3 (List.mem_of_getElem? (i := 27) rfl) rfl
theorem ww_152 : (Jvm.Cond.instanceMethod ({ cls := "CraneTurns$Crane", name := "hasGoal", desc := "()Z" } : Jvm.MethodName)) ∈ ct_GW := ct_t3 (List.mem_of_getElem? (i := 28) rfl) rfl
theorem ww_153 : (Jvm.Cond.fieldLink "CraneTurns$Yard" (155 : Nat) "CraneTurns$Crane" "high" "I") ∈ ct_GW := ct_t1 (List.mem_of_getElem? (i := 45) rfl) rfl
theorem ww_154 : (Jvm.Cond.fieldLink "CraneTurns$Yard" (158 : Nat) "CraneTurns$Crane" "low" "I") ∈ ct_GW := ct_t1 (List.mem_of_getElem? (i := 43) rfl) rfl
theorem ww_155 : (Jvm.Cond.methodLink "CraneTurns$Yard" (161 : Nat) ({ cls := "java/lang/Math", name := "max", desc := "(II)I" } : Jvm.MethodName)) ∈ ct_GW := ct_t3 (List.mem_of_getElem? (i := 20) rfl) rfl
theorem ww_156 : (Jvm.Cond.static ({ cls := "java/lang/Math", name := "max", desc := "(II)I" } : Jvm.MethodName)) ∈ ct_GW := ct_t3 (List.mem_of_getElem? (i := 21) rfl) rfl
theorem ww_157 : (Jvm.Cond.code ({ cls := "java/lang/Math", name := "max", desc := "(II)I" } : Jvm.MethodName) prog_12_method_65_code (2 : Nat) (Option.some Jvm.ClassFile.FieldType.int)) ∈ ct_GW := ct_t3 (List.mem_of_getElem? (i := 22) rfl) rfl
theorem ww_158 : (Jvm.Cond.code ({ cls := "CraneTurns$Crane", name := "copyOf", desc := "(LCraneTurns$Crane;)V" } : Jvm.MethodName) prog_2_method_7_code (2 : Nat) (Option.none : Option Jvm.ClassFile.FieldType)) ∈ ct_GW := ct_t3 (List.mem_of_getElem? (i := 80) rfl) rfl
theorem ww_159 : (Jvm.Cond.selects "CraneTurns$Crane" ({ cls := "CraneTurns$Crane", name := "copyOf", desc := "(LCraneTurns$Crane;)V" } : Jvm.MethodName) ({ cls := "CraneTurns$Crane", name := "copyOf", desc := "(LCraneTurns$Crane;)V" } : Jvm.MethodName)) ∈ ct_GW := ct_t3 (List.mem_of_getElem? (i := 79) rfl) rfl
theorem ww_160 : (Jvm.Cond.methodLink "CraneTurns$Yard" (164 : Nat) ({ cls := "CraneTurns$Crane", name := "copyOf", desc := "(LCraneTurns$Crane;)V" } : Jvm.MethodName)) ∈ ct_GW := ct_t3 (List.mem_of_getElem? (i := 77) rfl) rfl
theorem ww_161 : (Jvm.Cond.instanceMethod ({ cls := "CraneTurns$Crane", name := "copyOf", desc := "(LCraneTurns$Crane;)V" } : Jvm.MethodName)) ∈ ct_GW := ct_t3 (List.mem_of_getElem? (i := 78) rfl) rfl
theorem ww_162 : (Jvm.Cond.code ({ cls := "CraneTurns$Job", name := "copyOf", desc := "(LCraneTurns$Job;)V" } : Jvm.MethodName) prog_3_method_2_code (2 : Nat) (Option.none : Option Jvm.ClassFile.FieldType)) ∈ ct_GW := ct_t3 (List.mem_of_getElem? (i := 88) rfl) rfl
theorem ww_163 : (Jvm.Cond.selects "CraneTurns$Job" ({ cls := "CraneTurns$Job", name := "copyOf", desc := "(LCraneTurns$Job;)V" } : Jvm.MethodName) ({ cls := "CraneTurns$Job", name := "copyOf", desc := "(LCraneTurns$Job;)V" } : Jvm.MethodName)) ∈ ct_GW := ct_t3 (List.mem_of_getElem? (i := 87) rfl) rfl
theorem ww_164 : (Jvm.Cond.methodLink "CraneTurns$Yard" (167 : Nat) ({ cls := "CraneTurns$Job", name := "copyOf", desc := "(LCraneTurns$Job;)V" } : Jvm.MethodName)) ∈ ct_GW := ct_t3 (List.mem_of_getElem? (i := 85) rfl) rfl
theorem ww_165 : (Jvm.Cond.instanceMethod ({ cls := "CraneTurns$Job", name := "copyOf", desc := "(LCraneTurns$Job;)V" } : Jvm.MethodName)) ∈ ct_GW := ct_t3 (List.mem_of_getElem? (i := 86) rfl) rfl
theorem ww_166 : (Jvm.Cond.initialized "CraneTurns$Job") ∈ ct_GW := ct_t1 (List.mem_of_getElem? (i := 4) rfl) rfl
theorem ww_167 : (Jvm.Cond.fieldLink "CraneTurnsModel" (28 : Nat) "CraneTurnsModel" "thrown" "I") ∈ ct_GW := ct_t3 (List.mem_of_getElem? (i := 119) rfl) rfl
theorem ww_168 : (Jvm.Cond.fieldLink "CraneTurnsModel" (32 : Nat) "CraneTurnsModel" "cranes" "I") ∈ ct_GW := ct_t3 (List.mem_of_getElem? (i := 120) rfl) rfl
theorem ww_169 : (Jvm.Cond.code ({ cls := "CraneTurnsModel", name := "in", desc := "(III)Z" } : Jvm.MethodName) prog_7_method_4_code (3 : Nat) (Option.some Jvm.ClassFile.FieldType.boolean)) ∈ ct_GW := ct_t3 (List.mem_of_getElem? (i := 169) rfl) rfl
theorem ww_170 : (Jvm.Cond.methodLink "CraneTurnsModel" (35 : Nat) ({ cls := "CraneTurnsModel", name := "in", desc := "(III)Z" } : Jvm.MethodName)) ∈ ct_GW := ct_t3 (List.mem_of_getElem? (i := 167) rfl) rfl
theorem ww_171 : (Jvm.Cond.static ({ cls := "CraneTurnsModel", name := "in", desc := "(III)Z" } : Jvm.MethodName)) ∈ ct_GW := ct_t3 (List.mem_of_getElem? (i := 168) rfl) rfl
theorem ww_172 : (Jvm.Cond.initialized "CraneTurnsModel") ∈ ct_GW := ct_t1 (List.mem_of_getElem? (i := 6) rfl) rfl
theorem ww_173 : (Jvm.Cond.fieldLink "CraneTurnsModel" (39 : Nat) "CraneTurnsModel" "jobs" "I") ∈ ct_GW := ct_t3 (List.mem_of_getElem? (i := 124) rfl) rfl
theorem ww_174 : (Jvm.Cond.fieldLink "CraneTurnsModel" (16 : Nat) "CraneTurnsModel" "all" "[I") ∈ ct_GW := ct_t3 (List.mem_of_getElem? (i := 127) rfl) rfl
theorem ww_175 : (Jvm.Cond.code ({ cls := "CraneTurnsModel", name := "throwing", desc := "(ZZZZ)Z" } : Jvm.MethodName) prog_7_method_3_code (5 : Nat) (Option.some Jvm.ClassFile.FieldType.boolean)) ∈ ct_GW := ct_t3 (List.mem_of_getElem? (i := 173) rfl) rfl
theorem ww_176 : (Jvm.Cond.methodLink "CraneTurnsModel" (42 : Nat) ({ cls := "CraneTurnsModel", name := "throwing", desc := "(ZZZZ)Z" } : Jvm.MethodName)) ∈ ct_GW := ct_t3 (List.mem_of_getElem? (i := 170) rfl) rfl
theorem ww_177 : (Jvm.Cond.instanceMethod ({ cls := "CraneTurnsModel", name := "throwing", desc := "(ZZZZ)Z" } : Jvm.MethodName)) ∈ ct_GW := ct_t3 (List.mem_of_getElem? (i := 172) rfl) rfl
theorem ww_178 : (Jvm.Cond.fieldLink "CraneTurnsModel" (46 : Nat) "CraneTurnsModel" "gap" "I") ∈ ct_GW := ct_t3 (List.mem_of_getElem? (i := 121) rfl) rfl
theorem ww_179 : (Jvm.Cond.fieldLink "CraneTurnsModel" (49 : Nat) "CraneTurnsModel" "speed" "I") ∈ ct_GW := ct_t3 (List.mem_of_getElem? (i := 122) rfl) rfl
theorem ww_180 : (Jvm.Cond.fieldLink "CraneTurnsModel" (52 : Nat) "CraneTurnsModel" "lift" "I") ∈ ct_GW := ct_t3 (List.mem_of_getElem? (i := 123) rfl) rfl
theorem ww_181 : (Jvm.Cond.code ({ cls := "CraneTurnsModel", name := "setCrane", desc := "(III)V" } : Jvm.MethodName) prog_7_method_8_code (4 : Nat) (Option.none : Option Jvm.ClassFile.FieldType)) ∈ ct_GW := ct_t3 (List.mem_of_getElem? (i := 177) rfl) rfl
theorem ww_182 : (Jvm.Cond.methodLink "CraneTurnsModel" (55 : Nat) ({ cls := "CraneTurnsModel", name := "setCrane", desc := "(III)V" } : Jvm.MethodName)) ∈ ct_GW := ct_t3 (List.mem_of_getElem? (i := 174) rfl) rfl
theorem ww_183 : (Jvm.Cond.instanceMethod ({ cls := "CraneTurnsModel", name := "setCrane", desc := "(III)V" } : Jvm.MethodName)) ∈ ct_GW := ct_t3 (List.mem_of_getElem? (i := 176) rfl) rfl
theorem ww_184 : (Jvm.Cond.fieldLink "CraneTurnsModel" (13 : Nat) "CraneTurnsModel" "high" "[I") ∈ ct_GW := ct_t3 (List.mem_of_getElem? (i := 126) rfl) rfl
theorem ww_185 : (Jvm.Cond.code ({ cls := "CraneTurnsModel", name := "isCrane", desc := "(I)Z" } : Jvm.MethodName) prog_7_method_5_code (2 : Nat) (Option.some Jvm.ClassFile.FieldType.boolean)) ∈ ct_GW := ct_t3 (List.mem_of_getElem? (i := 185) rfl) rfl
theorem ww_186 : (Jvm.Cond.methodLink "CraneTurnsModel" (59 : Nat) ({ cls := "CraneTurnsModel", name := "isCrane", desc := "(I)Z" } : Jvm.MethodName)) ∈ ct_GW := ct_t3 (List.mem_of_getElem? (i := 182) rfl) rfl
theorem ww_187 : (Jvm.Cond.instanceMethod ({ cls := "CraneTurnsModel", name := "isCrane", desc := "(I)Z" } : Jvm.MethodName)) ∈ ct_GW := ct_t3 (List.mem_of_getElem? (i := 184) rfl) rfl
theorem ww_188 : (Jvm.Cond.code ({ cls := "CraneTurnsModel", name := "ofCrane", desc := "(II)I" } : Jvm.MethodName) prog_7_method_7_code (3 : Nat) (Option.some Jvm.ClassFile.FieldType.int)) ∈ ct_GW := ct_t3 (List.mem_of_getElem? (i := 189) rfl) rfl
theorem ww_189 : (Jvm.Cond.methodLink "CraneTurnsModel" (63 : Nat) ({ cls := "CraneTurnsModel", name := "ofCrane", desc := "(II)I" } : Jvm.MethodName)) ∈ ct_GW := ct_t3 (List.mem_of_getElem? (i := 186) rfl) rfl
theorem ww_190 : (Jvm.Cond.instanceMethod ({ cls := "CraneTurnsModel", name := "ofCrane", desc := "(II)I" } : Jvm.MethodName)) ∈ ct_GW := ct_t3 (List.mem_of_getElem? (i := 188) rfl) rfl
theorem ww_191 : (Jvm.Cond.fieldLink "CraneTurnsModel" (7 : Nat) "CraneTurnsModel" "low" "[I") ∈ ct_GW := ct_t3 (List.mem_of_getElem? (i := 125) rfl) rfl
theorem ww_192 : (Jvm.Cond.code ({ cls := "CraneTurnsModel", name := "setJob", desc := "(III)V" } : Jvm.MethodName) prog_7_method_10_code (4 : Nat) (Option.none : Option Jvm.ClassFile.FieldType)) ∈ ct_GW := ct_t3 (List.mem_of_getElem? (i := 197) rfl) rfl
theorem ww_193 : (Jvm.Cond.methodLink "CraneTurnsModel" (67 : Nat) ({ cls := "CraneTurnsModel", name := "setJob", desc := "(III)V" } : Jvm.MethodName)) ∈ ct_GW := ct_t3 (List.mem_of_getElem? (i := 194) rfl) rfl
theorem ww_194 : (Jvm.Cond.instanceMethod ({ cls := "CraneTurnsModel", name := "setJob", desc := "(III)V" } : Jvm.MethodName)) ∈ ct_GW := ct_t3 (List.mem_of_getElem? (i := 196) rfl) rfl
theorem ww_195 : (Jvm.Cond.code ({ cls := "CraneTurnsModel", name := "ofJob", desc := "(II)I" } : Jvm.MethodName) prog_7_method_9_code (3 : Nat) (Option.some Jvm.ClassFile.FieldType.int)) ∈ ct_GW := ct_t3 (List.mem_of_getElem? (i := 209) rfl) rfl
theorem ww_196 : (Jvm.Cond.methodLink "CraneTurnsModel" (70 : Nat) ({ cls := "CraneTurnsModel", name := "ofJob", desc := "(II)I" } : Jvm.MethodName)) ∈ ct_GW := ct_t3 (List.mem_of_getElem? (i := 206) rfl) rfl
theorem ww_197 : (Jvm.Cond.instanceMethod ({ cls := "CraneTurnsModel", name := "ofJob", desc := "(II)I" } : Jvm.MethodName)) ∈ ct_GW := ct_t3 (List.mem_of_getElem? (i := 208) rfl) rfl
theorem ww_198 : (Jvm.Cond.code ({ cls := "CraneTurnsModel", name := "isJob", desc := "(I)Z" } : Jvm.MethodName) prog_7_method_6_code (2 : Nat) (Option.some Jvm.ClassFile.FieldType.boolean)) ∈ ct_GW := ct_t3 (List.mem_of_getElem? (i := 205) rfl) rfl
theorem ww_199 : (Jvm.Cond.methodLink "CraneTurnsModel" (73 : Nat) ({ cls := "CraneTurnsModel", name := "isJob", desc := "(I)Z" } : Jvm.MethodName)) ∈ ct_GW := ct_t3 (List.mem_of_getElem? (i := 202) rfl) rfl
theorem ww_200 : (Jvm.Cond.instanceMethod ({ cls := "CraneTurnsModel", name := "isJob", desc := "(I)Z" } : Jvm.MethodName)) ∈ ct_GW := ct_t3 (List.mem_of_getElem? (i := 204) rfl) rfl
theorem ww_201 : (Jvm.Cond.code ({ cls := "CraneTurnsModel", name := "reaches", desc := "(II)Z" } : Jvm.MethodName) prog_7_method_14_code (3 : Nat) (Option.some Jvm.ClassFile.FieldType.boolean)) ∈ ct_GW := ct_t3 (List.mem_of_getElem? (i := 213) rfl) rfl
theorem ww_202 : (Jvm.Cond.methodLink "CraneTurnsModel" (76 : Nat) ({ cls := "CraneTurnsModel", name := "reaches", desc := "(II)Z" } : Jvm.MethodName)) ∈ ct_GW := ct_t3 (List.mem_of_getElem? (i := 210) rfl) rfl
theorem ww_203 : (Jvm.Cond.instanceMethod ({ cls := "CraneTurnsModel", name := "reaches", desc := "(II)Z" } : Jvm.MethodName)) ∈ ct_GW := ct_t3 (List.mem_of_getElem? (i := 212) rfl) rfl
theorem ww_204 : (Jvm.Cond.code ({ cls := "CraneTurnsModel", name := "giveTo", desc := "(II)V" } : Jvm.MethodName) prog_7_method_15_code (3 : Nat) (Option.none : Option Jvm.ClassFile.FieldType)) ∈ ct_GW := ct_t3 (List.mem_of_getElem? (i := 217) rfl) rfl
theorem ww_205 : (Jvm.Cond.methodLink "CraneTurnsModel" (80 : Nat) ({ cls := "CraneTurnsModel", name := "giveTo", desc := "(II)V" } : Jvm.MethodName)) ∈ ct_GW := ct_t3 (List.mem_of_getElem? (i := 214) rfl) rfl
theorem ww_206 : (Jvm.Cond.instanceMethod ({ cls := "CraneTurnsModel", name := "giveTo", desc := "(II)V" } : Jvm.MethodName)) ∈ ct_GW := ct_t3 (List.mem_of_getElem? (i := 216) rfl) rfl
theorem ww_207 : (Jvm.Cond.code ({ cls := "CraneTurnsModel", name := "firstOf", desc := "(I)I" } : Jvm.MethodName) prog_7_method_19_code (5 : Nat) (Option.some Jvm.ClassFile.FieldType.int)) ∈ ct_GW := ct_t4 (List.mem_of_getElem? (i := 6) rfl) rfl
theorem ww_208 : (Jvm.Cond.methodLink "CraneTurnsModel" (84 : Nat) ({ cls := "CraneTurnsModel", name := "firstOf", desc := "(I)I" } : Jvm.MethodName)) ∈ ct_GW := ct_t4 (List.mem_of_getElem? (i := 3) rfl) rfl
theorem ww_209 : (Jvm.Cond.instanceMethod ({ cls := "CraneTurnsModel", name := "firstOf", desc := "(I)I" } : Jvm.MethodName)) ∈ ct_GW := ct_t4 (List.mem_of_getElem? (i := 5) rfl) rfl
theorem ww_210 : (Jvm.Cond.code ({ cls := "CraneTurnsModel", name := "begins", desc := "(II)V" } : Jvm.MethodName) prog_7_method_22_code (3 : Nat) (Option.none : Option Jvm.ClassFile.FieldType)) ∈ ct_GW := ct_t4 (List.mem_of_getElem? (i := 10) rfl) rfl
theorem ww_211 : (Jvm.Cond.methodLink "CraneTurnsModel" (88 : Nat) ({ cls := "CraneTurnsModel", name := "begins", desc := "(II)V" } : Jvm.MethodName)) ∈ ct_GW := ct_t4 (List.mem_of_getElem? (i := 7) rfl) rfl
theorem ww_212 : (Jvm.Cond.instanceMethod ({ cls := "CraneTurnsModel", name := "begins", desc := "(II)V" } : Jvm.MethodName)) ∈ ct_GW := ct_t4 (List.mem_of_getElem? (i := 9) rfl) rfl
theorem ww_213 : (Jvm.Cond.code ({ cls := "CraneTurnsModel", name := "hasGoal", desc := "(I)Z" } : Jvm.MethodName) prog_7_method_20_code (2 : Nat) (Option.some Jvm.ClassFile.FieldType.boolean)) ∈ ct_GW := ct_t4 (List.mem_of_getElem? (i := 18) rfl) rfl
theorem ww_214 : (Jvm.Cond.methodLink "CraneTurnsModel" (91 : Nat) ({ cls := "CraneTurnsModel", name := "hasGoal", desc := "(I)Z" } : Jvm.MethodName)) ∈ ct_GW := ct_t4 (List.mem_of_getElem? (i := 15) rfl) rfl
theorem ww_215 : (Jvm.Cond.instanceMethod ({ cls := "CraneTurnsModel", name := "hasGoal", desc := "(I)Z" } : Jvm.MethodName)) ∈ ct_GW := ct_t4 (List.mem_of_getElem? (i := 17) rfl) rfl
theorem ww_216 : (Jvm.Cond.code ({ cls := "CraneTurnsModel", name := "goalOf", desc := "(I)I" } : Jvm.MethodName) prog_7_method_21_code (2 : Nat) (Option.some Jvm.ClassFile.FieldType.int)) ∈ ct_GW := ct_t4 (List.mem_of_getElem? (i := 22) rfl) rfl
theorem ww_217 : (Jvm.Cond.methodLink "CraneTurnsModel" (94 : Nat) ({ cls := "CraneTurnsModel", name := "goalOf", desc := "(I)I" } : Jvm.MethodName)) ∈ ct_GW := ct_t4 (List.mem_of_getElem? (i := 19) rfl) rfl
theorem ww_218 : (Jvm.Cond.instanceMethod ({ cls := "CraneTurnsModel", name := "goalOf", desc := "(I)I" } : Jvm.MethodName)) ∈ ct_GW := ct_t4 (List.mem_of_getElem? (i := 21) rfl) rfl
theorem ww_219 : (Jvm.Cond.code ({ cls := "CraneTurnsModel", name := "goes", desc := "(II)Z" } : Jvm.MethodName) prog_7_method_24_code (5 : Nat) (Option.some Jvm.ClassFile.FieldType.boolean)) ∈ ct_GW := ct_t4 (List.mem_of_getElem? (i := 26) rfl) rfl
theorem ww_220 : (Jvm.Cond.methodLink "CraneTurnsModel" (97 : Nat) ({ cls := "CraneTurnsModel", name := "goes", desc := "(II)Z" } : Jvm.MethodName)) ∈ ct_GW := ct_t4 (List.mem_of_getElem? (i := 23) rfl) rfl
theorem ww_221 : (Jvm.Cond.instanceMethod ({ cls := "CraneTurnsModel", name := "goes", desc := "(II)Z" } : Jvm.MethodName)) ∈ ct_GW := ct_t4 (List.mem_of_getElem? (i := 25) rfl) rfl
theorem ww_222 : (Jvm.Cond.code ({ cls := "CraneTurnsModel", name := "takesJob", desc := "(I)V" } : Jvm.MethodName) prog_7_method_23_code (3 : Nat) (Option.none : Option Jvm.ClassFile.FieldType)) ∈ ct_GW := ct_t4 (List.mem_of_getElem? (i := 2) rfl) rfl
theorem ww_223 : (Jvm.Cond.methodLink "CraneTurnsModel" (100 : Nat) ({ cls := "CraneTurnsModel", name := "takesJob", desc := "(I)V" } : Jvm.MethodName)) ∈ ct_GW := ct_t3 (List.mem_of_getElem? (i := 239) rfl) rfl
theorem ww_224 : (Jvm.Cond.instanceMethod ({ cls := "CraneTurnsModel", name := "takesJob", desc := "(I)V" } : Jvm.MethodName)) ∈ ct_GW := ct_t4 (List.mem_of_getElem? (i := 1) rfl) rfl
theorem ww_225 : (Jvm.Cond.code ({ cls := "CraneTurnsModel", name := "givesWay", desc := "(I)V" } : Jvm.MethodName) prog_7_method_26_code (4 : Nat) (Option.none : Option Jvm.ClassFile.FieldType)) ∈ ct_GW := ct_t4 (List.mem_of_getElem? (i := 14) rfl) rfl
theorem ww_226 : (Jvm.Cond.methodLink "CraneTurnsModel" (104 : Nat) ({ cls := "CraneTurnsModel", name := "givesWay", desc := "(I)V" } : Jvm.MethodName)) ∈ ct_GW := ct_t4 (List.mem_of_getElem? (i := 11) rfl) rfl
theorem ww_227 : (Jvm.Cond.instanceMethod ({ cls := "CraneTurnsModel", name := "givesWay", desc := "(I)V" } : Jvm.MethodName)) ∈ ct_GW := ct_t4 (List.mem_of_getElem? (i := 13) rfl) rfl
theorem ww_228 : (Jvm.Cond.code ({ cls := "CraneTurnsModel", name := "lessToGo", desc := "(I)V" } : Jvm.MethodName) prog_7_method_25_code (3 : Nat) (Option.none : Option Jvm.ClassFile.FieldType)) ∈ ct_GW := ct_t4 (List.mem_of_getElem? (i := 30) rfl) rfl
theorem ww_229 : (Jvm.Cond.methodLink "CraneTurnsModel" (107 : Nat) ({ cls := "CraneTurnsModel", name := "lessToGo", desc := "(I)V" } : Jvm.MethodName)) ∈ ct_GW := ct_t4 (List.mem_of_getElem? (i := 27) rfl) rfl
theorem ww_230 : (Jvm.Cond.instanceMethod ({ cls := "CraneTurnsModel", name := "lessToGo", desc := "(I)V" } : Jvm.MethodName)) ∈ ct_GW := ct_t4 (List.mem_of_getElem? (i := 29) rfl) rfl
theorem ww_231 : (Jvm.Cond.code ({ cls := "CraneTurnsModel", name := "second", desc := "(I)V" } : Jvm.MethodName) prog_7_method_27_code (3 : Nat) (Option.none : Option Jvm.ClassFile.FieldType)) ∈ ct_GW := ct_t3 (List.mem_of_getElem? (i := 238) rfl) rfl
theorem ww_232 : (Jvm.Cond.methodLink "CraneTurnsModel" (110 : Nat) ({ cls := "CraneTurnsModel", name := "second", desc := "(I)V" } : Jvm.MethodName)) ∈ ct_GW := ct_t3 (List.mem_of_getElem? (i := 235) rfl) rfl
theorem ww_233 : (Jvm.Cond.instanceMethod ({ cls := "CraneTurnsModel", name := "second", desc := "(I)V" } : Jvm.MethodName)) ∈ ct_GW := ct_t3 (List.mem_of_getElem? (i := 237) rfl) rfl
theorem ww_234 : (Jvm.Cond.constant "CraneTurnsModel" (113 : Nat) (100000 : Int32)) ∈ ct_GW := ct_t3 (List.mem_of_getElem? (i := 230) rfl) rfl
theorem ww_235 : (Jvm.Cond.code ({ cls := "CraneTurnsModel", name := "secondOfAll", desc := "()V" } : Jvm.MethodName) prog_7_method_28_code (3 : Nat) (Option.none : Option Jvm.ClassFile.FieldType)) ∈ ct_GW := ct_t3 (List.mem_of_getElem? (i := 234) rfl) rfl
theorem ww_236 : (Jvm.Cond.methodLink "CraneTurnsModel" (114 : Nat) ({ cls := "CraneTurnsModel", name := "secondOfAll", desc := "()V" } : Jvm.MethodName)) ∈ ct_GW := ct_t3 (List.mem_of_getElem? (i := 231) rfl) rfl
theorem ww_237 : (Jvm.Cond.instanceMethod ({ cls := "CraneTurnsModel", name := "secondOfAll", desc := "()V" } : Jvm.MethodName)) ∈ ct_GW := ct_t3 (List.mem_of_getElem? (i := 233) rfl) rfl
theorem ww_238 : (Jvm.Cond.fieldLink "CraneTurnsModel" (19 : Nat) "CraneTurnsModel" "kept" "[I") ∈ ct_GW := ct_t3 (List.mem_of_getElem? (i := 128) rfl) rfl
theorem ww_239 : (Jvm.Cond.fieldLink "CraneTurnsModel" (22 : Nat) "CraneTurnsModel" "way" "[I") ∈ ct_GW := ct_t3 (List.mem_of_getElem? (i := 129) rfl) rfl
theorem ww_240 : (Jvm.Cond.code ({ cls := "CraneTurnsModel", name := "isAllDone", desc := "()Z" } : Jvm.MethodName) prog_7_method_33_code (3 : Nat) (Option.some Jvm.ClassFile.FieldType.boolean)) ∈ ct_GW := ct_t4 (List.mem_of_getElem? (i := 54) rfl) rfl
theorem ww_241 : (Jvm.Cond.methodLink "CraneTurnsModel" (117 : Nat) ({ cls := "CraneTurnsModel", name := "isAllDone", desc := "()Z" } : Jvm.MethodName)) ∈ ct_GW := ct_t4 (List.mem_of_getElem? (i := 51) rfl) rfl
theorem ww_242 : (Jvm.Cond.instanceMethod ({ cls := "CraneTurnsModel", name := "isAllDone", desc := "()Z" } : Jvm.MethodName)) ∈ ct_GW := ct_t4 (List.mem_of_getElem? (i := 53) rfl) rfl
theorem ww_243 : (Jvm.Cond.code ({ cls := "CraneTurnsModel", name := "isInWay", desc := "(I)Z" } : Jvm.MethodName) prog_7_method_35_code (4 : Nat) (Option.some Jvm.ClassFile.FieldType.boolean)) ∈ ct_GW := ct_t4 (List.mem_of_getElem? (i := 62) rfl) rfl
theorem ww_244 : (Jvm.Cond.methodLink "CraneTurnsModel" (121 : Nat) ({ cls := "CraneTurnsModel", name := "isInWay", desc := "(I)Z" } : Jvm.MethodName)) ∈ ct_GW := ct_t4 (List.mem_of_getElem? (i := 59) rfl) rfl
theorem ww_245 : (Jvm.Cond.instanceMethod ({ cls := "CraneTurnsModel", name := "isInWay", desc := "(I)Z" } : Jvm.MethodName)) ∈ ct_GW := ct_t4 (List.mem_of_getElem? (i := 61) rfl) rfl
theorem ww_246 : (Jvm.Cond.fieldLink "CraneTurnsModel" (124 : Nat) "CraneTurnsModel" "bestMany" "I") ∈ ct_GW := ct_t3 (List.mem_of_getElem? (i := 131) rfl) rfl
theorem ww_247 : (Jvm.Cond.code ({ cls := "CraneTurnsModel", name := "secondsOf", desc := "(II)I" } : Jvm.MethodName) prog_7_method_34_code (6 : Nat) (Option.some Jvm.ClassFile.FieldType.int)) ∈ ct_GW := ct_t4 (List.mem_of_getElem? (i := 50) rfl) rfl
theorem ww_248 : (Jvm.Cond.methodLink "CraneTurnsModel" (127 : Nat) ({ cls := "CraneTurnsModel", name := "secondsOf", desc := "(II)I" } : Jvm.MethodName)) ∈ ct_GW := ct_t4 (List.mem_of_getElem? (i := 47) rfl) rfl
theorem ww_249 : (Jvm.Cond.instanceMethod ({ cls := "CraneTurnsModel", name := "secondsOf", desc := "(II)I" } : Jvm.MethodName)) ∈ ct_GW := ct_t4 (List.mem_of_getElem? (i := 49) rfl) rfl
theorem ww_250 : (Jvm.Cond.fieldLink "CraneTurnsModel" (25 : Nat) "CraneTurnsModel" "best" "[I") ∈ ct_GW := ct_t3 (List.mem_of_getElem? (i := 130) rfl) rfl
theorem ww_251 : (Jvm.Cond.code ({ cls := "CraneTurnsModel", name := "may", desc := "(I)Z" } : Jvm.MethodName) prog_7_method_36_code (4 : Nat) (Option.some Jvm.ClassFile.FieldType.boolean)) ∈ ct_GW := ct_t4 (List.mem_of_getElem? (i := 58) rfl) rfl
theorem ww_252 : (Jvm.Cond.methodLink "CraneTurnsModel" (130 : Nat) ({ cls := "CraneTurnsModel", name := "may", desc := "(I)Z" } : Jvm.MethodName)) ∈ ct_GW := ct_t4 (List.mem_of_getElem? (i := 55) rfl) rfl
theorem ww_253 : (Jvm.Cond.instanceMethod ({ cls := "CraneTurnsModel", name := "may", desc := "(I)Z" } : Jvm.MethodName)) ∈ ct_GW := ct_t4 (List.mem_of_getElem? (i := 57) rfl) rfl
theorem sel_11 : Jvm.Cond.selects "CraneTurns$Planner" ({ cls := "CraneTurns$Planner", name := "extendWay", desc := "(LCraneTurns$Yard;I)V" } : Jvm.MethodName) ({ cls := "CraneTurns$Planner", name := "extendWay", desc := "(LCraneTurns$Yard;I)V" } : Jvm.MethodName) ∈ ct_GW := ct_p1 (List.mem_of_getElem? (i := 13) rfl)
theorem sel_12 : Jvm.Cond.selects "CraneTurns$Planner" ({ cls := "CraneTurns$Planner", name := "isTriedAlready", desc := "(III)Z" } : Jvm.MethodName) ({ cls := "CraneTurns$Planner", name := "isTriedAlready", desc := "(III)Z" } : Jvm.MethodName) ∈ ct_GW := ct_p2 (List.mem_of_getElem? (i := 0) rfl)
theorem sel_13 : Jvm.Cond.selects "CraneTurns$Planner" ({ cls := "CraneTurns$Planner", name := "tryWay", desc := "(LCraneTurns$Yard;)V" } : Jvm.MethodName) ({ cls := "CraneTurns$Planner", name := "tryWay", desc := "(LCraneTurns$Yard;)V" } : Jvm.MethodName) ∈ ct_GW := ct_p1 (List.mem_of_getElem? (i := 14) rfl)
theorem sel_14 : Jvm.Cond.selects "CraneTurns$Planner" ({ cls := "CraneTurns$Planner", name := "keepWay", desc := "(I)V" } : Jvm.MethodName) ({ cls := "CraneTurns$Planner", name := "keepWay", desc := "(I)V" } : Jvm.MethodName) ∈ ct_GW := ct_p1 (List.mem_of_getElem? (i := 15) rfl)
theorem sel_21 : Jvm.Cond.selects "CraneTurns$Yard" ({ cls := "CraneTurns$Yard", name := "floorOf", desc := "(I)I" } : Jvm.MethodName) ({ cls := "CraneTurns$Yard", name := "floorOf", desc := "(I)I" } : Jvm.MethodName) ∈ ct_GW := ct_p1 (List.mem_of_getElem? (i := 2) rfl)
theorem sel_22 : Jvm.Cond.selects "CraneTurns$Yard" ({ cls := "CraneTurns$Yard", name := "ceilingOf", desc := "(I)I" } : Jvm.MethodName) ({ cls := "CraneTurns$Yard", name := "ceilingOf", desc := "(I)I" } : Jvm.MethodName) ∈ ct_GW := ct_p1 (List.mem_of_getElem? (i := 3) rfl)
theorem sel_25 : Jvm.Cond.selects "CraneTurns$Yard" ({ cls := "CraneTurns$Yard", name := "passSecondOf", desc := "(I)I" } : Jvm.MethodName) ({ cls := "CraneTurns$Yard", name := "passSecondOf", desc := "(I)I" } : Jvm.MethodName) ∈ ct_GW := ct_p1 (List.mem_of_getElem? (i := 6) rfl)
theorem sel_26 : Jvm.Cond.selects "CraneTurns$Yard" ({ cls := "CraneTurns$Yard", name := "takeFirst", desc := "(LCraneTurns$Crane;)V" } : Jvm.MethodName) ({ cls := "CraneTurns$Yard", name := "takeFirst", desc := "(LCraneTurns$Crane;)V" } : Jvm.MethodName) ∈ ct_GW := ct_p1 (List.mem_of_getElem? (i := 7) rfl)
theorem sel_27 : Jvm.Cond.selects "CraneTurns$Yard" ({ cls := "CraneTurns$Yard", name := "handleIfThere", desc := "(LCraneTurns$Crane;)V" } : Jvm.MethodName) ({ cls := "CraneTurns$Yard", name := "handleIfThere", desc := "(LCraneTurns$Crane;)V" } : Jvm.MethodName) ∈ ct_GW := ct_p1 (List.mem_of_getElem? (i := 8) rfl)
theorem sel_28 : Jvm.Cond.selects "CraneTurns$Yard" ({ cls := "CraneTurns$Yard", name := "liftOn", desc := "(LCraneTurns$Crane;)V" } : Jvm.MethodName) ({ cls := "CraneTurns$Yard", name := "liftOn", desc := "(LCraneTurns$Crane;)V" } : Jvm.MethodName) ∈ ct_GW := ct_p1 (List.mem_of_getElem? (i := 9) rfl)
theorem sel_29 : Jvm.Cond.selects "CraneTurns$Yard" ({ cls := "CraneTurns$Yard", name := "setOn", desc := "(LCraneTurns$Crane;)V" } : Jvm.MethodName) ({ cls := "CraneTurns$Yard", name := "setOn", desc := "(LCraneTurns$Crane;)V" } : Jvm.MethodName) ∈ ct_GW := ct_p1 (List.mem_of_getElem? (i := 10) rfl)
theorem sel_30 : Jvm.Cond.selects "CraneTurns$Yard" ({ cls := "CraneTurns$Yard", name := "placeOutOfTheWay", desc := "(I)I" } : Jvm.MethodName) ({ cls := "CraneTurns$Yard", name := "placeOutOfTheWay", desc := "(I)I" } : Jvm.MethodName) ∈ ct_GW := ct_p1 (List.mem_of_getElem? (i := 12) rfl)
theorem sel_31 : Jvm.Cond.selects "CraneTurns$Yard" ({ cls := "CraneTurns$Yard", name := "moveToward", desc := "(II)V" } : Jvm.MethodName) ({ cls := "CraneTurns$Yard", name := "moveToward", desc := "(II)V" } : Jvm.MethodName) ∈ ct_GW := ct_p1 (List.mem_of_getElem? (i := 11) rfl)
theorem sel_34 : Jvm.Cond.selects "CraneTurnsModel" ({ cls := "CraneTurnsModel", name := "throwing", desc := "(ZZZZ)Z" } : Jvm.MethodName) ({ cls := "CraneTurnsModel", name := "throwing", desc := "(ZZZZ)Z" } : Jvm.MethodName) ∈ ct_GW := ct_p2 (List.mem_of_getElem? (i := 1) rfl)
theorem sel_36 : Jvm.Cond.selects "CraneTurnsModel" ({ cls := "CraneTurnsModel", name := "isCrane", desc := "(I)Z" } : Jvm.MethodName) ({ cls := "CraneTurnsModel", name := "isCrane", desc := "(I)Z" } : Jvm.MethodName) ∈ ct_GW := ct_p2 (List.mem_of_getElem? (i := 3) rfl)
theorem sel_37 : Jvm.Cond.selects "CraneTurnsModel" ({ cls := "CraneTurnsModel", name := "isJob", desc := "(I)Z" } : Jvm.MethodName) ({ cls := "CraneTurnsModel", name := "isJob", desc := "(I)Z" } : Jvm.MethodName) ∈ ct_GW := ct_p2 (List.mem_of_getElem? (i := 6) rfl)
theorem sel_38 : Jvm.Cond.selects "CraneTurnsModel" ({ cls := "CraneTurnsModel", name := "ofCrane", desc := "(II)I" } : Jvm.MethodName) ({ cls := "CraneTurnsModel", name := "ofCrane", desc := "(II)I" } : Jvm.MethodName) ∈ ct_GW := ct_p2 (List.mem_of_getElem? (i := 4) rfl)
theorem sel_39 : Jvm.Cond.selects "CraneTurnsModel" ({ cls := "CraneTurnsModel", name := "setCrane", desc := "(III)V" } : Jvm.MethodName) ({ cls := "CraneTurnsModel", name := "setCrane", desc := "(III)V" } : Jvm.MethodName) ∈ ct_GW := ct_p2 (List.mem_of_getElem? (i := 2) rfl)
theorem sel_40 : Jvm.Cond.selects "CraneTurnsModel" ({ cls := "CraneTurnsModel", name := "ofJob", desc := "(II)I" } : Jvm.MethodName) ({ cls := "CraneTurnsModel", name := "ofJob", desc := "(II)I" } : Jvm.MethodName) ∈ ct_GW := ct_p2 (List.mem_of_getElem? (i := 7) rfl)
theorem sel_41 : Jvm.Cond.selects "CraneTurnsModel" ({ cls := "CraneTurnsModel", name := "setJob", desc := "(III)V" } : Jvm.MethodName) ({ cls := "CraneTurnsModel", name := "setJob", desc := "(III)V" } : Jvm.MethodName) ∈ ct_GW := ct_p2 (List.mem_of_getElem? (i := 5) rfl)
theorem sel_45 : Jvm.Cond.selects "CraneTurnsModel" ({ cls := "CraneTurnsModel", name := "reaches", desc := "(II)Z" } : Jvm.MethodName) ({ cls := "CraneTurnsModel", name := "reaches", desc := "(II)Z" } : Jvm.MethodName) ∈ ct_GW := ct_p2 (List.mem_of_getElem? (i := 8) rfl)
theorem sel_46 : Jvm.Cond.selects "CraneTurnsModel" ({ cls := "CraneTurnsModel", name := "giveTo", desc := "(II)V" } : Jvm.MethodName) ({ cls := "CraneTurnsModel", name := "giveTo", desc := "(II)V" } : Jvm.MethodName) ∈ ct_GW := ct_p2 (List.mem_of_getElem? (i := 9) rfl)
theorem sel_50 : Jvm.Cond.selects "CraneTurnsModel" ({ cls := "CraneTurnsModel", name := "firstOf", desc := "(I)I" } : Jvm.MethodName) ({ cls := "CraneTurnsModel", name := "firstOf", desc := "(I)I" } : Jvm.MethodName) ∈ ct_GW := ct_p2 (List.mem_of_getElem? (i := 13) rfl)
theorem sel_51 : Jvm.Cond.selects "CraneTurnsModel" ({ cls := "CraneTurnsModel", name := "hasGoal", desc := "(I)Z" } : Jvm.MethodName) ({ cls := "CraneTurnsModel", name := "hasGoal", desc := "(I)Z" } : Jvm.MethodName) ∈ ct_GW := ct_p3 (List.mem_of_getElem? (i := 0) rfl)
theorem sel_52 : Jvm.Cond.selects "CraneTurnsModel" ({ cls := "CraneTurnsModel", name := "goalOf", desc := "(I)I" } : Jvm.MethodName) ({ cls := "CraneTurnsModel", name := "goalOf", desc := "(I)I" } : Jvm.MethodName) ∈ ct_GW := ct_p3 (List.mem_of_getElem? (i := 1) rfl)
theorem sel_53 : Jvm.Cond.selects "CraneTurnsModel" ({ cls := "CraneTurnsModel", name := "begins", desc := "(II)V" } : Jvm.MethodName) ({ cls := "CraneTurnsModel", name := "begins", desc := "(II)V" } : Jvm.MethodName) ∈ ct_GW := ct_p2 (List.mem_of_getElem? (i := 14) rfl)
theorem sel_54 : Jvm.Cond.selects "CraneTurnsModel" ({ cls := "CraneTurnsModel", name := "takesJob", desc := "(I)V" } : Jvm.MethodName) ({ cls := "CraneTurnsModel", name := "takesJob", desc := "(I)V" } : Jvm.MethodName) ∈ ct_GW := ct_p2 (List.mem_of_getElem? (i := 12) rfl)
theorem sel_55 : Jvm.Cond.selects "CraneTurnsModel" ({ cls := "CraneTurnsModel", name := "goes", desc := "(II)Z" } : Jvm.MethodName) ({ cls := "CraneTurnsModel", name := "goes", desc := "(II)Z" } : Jvm.MethodName) ∈ ct_GW := ct_p3 (List.mem_of_getElem? (i := 2) rfl)
theorem sel_56 : Jvm.Cond.selects "CraneTurnsModel" ({ cls := "CraneTurnsModel", name := "lessToGo", desc := "(I)V" } : Jvm.MethodName) ({ cls := "CraneTurnsModel", name := "lessToGo", desc := "(I)V" } : Jvm.MethodName) ∈ ct_GW := ct_p3 (List.mem_of_getElem? (i := 3) rfl)
theorem sel_57 : Jvm.Cond.selects "CraneTurnsModel" ({ cls := "CraneTurnsModel", name := "givesWay", desc := "(I)V" } : Jvm.MethodName) ({ cls := "CraneTurnsModel", name := "givesWay", desc := "(I)V" } : Jvm.MethodName) ∈ ct_GW := ct_p2 (List.mem_of_getElem? (i := 15) rfl)
theorem sel_58 : Jvm.Cond.selects "CraneTurnsModel" ({ cls := "CraneTurnsModel", name := "second", desc := "(I)V" } : Jvm.MethodName) ({ cls := "CraneTurnsModel", name := "second", desc := "(I)V" } : Jvm.MethodName) ∈ ct_GW := ct_p2 (List.mem_of_getElem? (i := 11) rfl)
theorem sel_59 : Jvm.Cond.selects "CraneTurnsModel" ({ cls := "CraneTurnsModel", name := "secondOfAll", desc := "()V" } : Jvm.MethodName) ({ cls := "CraneTurnsModel", name := "secondOfAll", desc := "()V" } : Jvm.MethodName) ∈ ct_GW := ct_p2 (List.mem_of_getElem? (i := 10) rfl)
theorem sel_64 : Jvm.Cond.selects "CraneTurnsModel" ({ cls := "CraneTurnsModel", name := "isAllDone", desc := "()Z" } : Jvm.MethodName) ({ cls := "CraneTurnsModel", name := "isAllDone", desc := "()Z" } : Jvm.MethodName) ∈ ct_GW := ct_p3 (List.mem_of_getElem? (i := 5) rfl)
theorem sel_65 : Jvm.Cond.selects "CraneTurnsModel" ({ cls := "CraneTurnsModel", name := "secondsOf", desc := "(II)I" } : Jvm.MethodName) ({ cls := "CraneTurnsModel", name := "secondsOf", desc := "(II)I" } : Jvm.MethodName) ∈ ct_GW := ct_p3 (List.mem_of_getElem? (i := 4) rfl)
theorem sel_66 : Jvm.Cond.selects "CraneTurnsModel" ({ cls := "CraneTurnsModel", name := "isInWay", desc := "(I)Z" } : Jvm.MethodName) ({ cls := "CraneTurnsModel", name := "isInWay", desc := "(I)Z" } : Jvm.MethodName) ∈ ct_GW := ct_p3 (List.mem_of_getElem? (i := 7) rfl)
theorem sel_67 : Jvm.Cond.selects "CraneTurnsModel" ({ cls := "CraneTurnsModel", name := "may", desc := "(I)Z" } : Jvm.MethodName) ({ cls := "CraneTurnsModel", name := "may", desc := "(I)Z" } : Jvm.MethodName) ∈ ct_GW := ct_p3 (List.mem_of_getElem? (i := 6) rfl)
end
section
def ct_K : Nat → mm_K := fun k => match k with
  | 0 => .inl [none, none, none, none, none, none, none, none, some (6, 1), some (7, 2), none]
  | 1 => .inl [none, none, none, none, none, none]
  | 2 => .inl [some (3, 15), some (8, 1), some (6, 2), some (6, 3), some (6, 4), none, none, none, none]
  | 3 => .inl [none, none, none, none, none, none, none, none, none, some (10, 1), some (11, 2)]
  | 4 => .inl [some (3, 8), some (2, 1)]
  | 5 => .inl [none, none, none, none, none, none, some (12, 1), some (12, 2), some (13, 3), some (13, 4), some (14, 5), some (6, 6), none]
  | 6 => .inr (.inl (0, 4))
  | 7 => .inr (.inl (0, 8))
  | 8 => .inr (.inl (1, 8))
  | 10 => .inr (.inr (2, 3, 0, 2))
  | 11 => .inr (.inr (3, 8, 1, 4))
  | 12 => .inr (.inl (0, 3))
  | 13 => .inr (.inl (0, 110))
  | 14 => .inr (.inl (0, 5))
  | _ => .inr (.inl (0, 0))
def ct_N : List Nat := [0, 1, 2, 3, 4, 5, 8, 9, 10, 11, 12, 13, 14, 16, 17, 18, 19, 20, 21, 22, 24, 25, 26, 27, 28, 29, 30, 43, 44, 45, 46, 51, 52, 53, 54, 75, 76, 77, 78, 83, 84, 85, 86, 110, 118, 142, 150, 174, 182, 206, 214, 238, 246]
def ct_kd : Nat → Nat := fun i => ([4, 2, 8, 6, 6, 6, 99, 99, 3, 10, 11, 0, 6, 7, 1, 99, 3, 10, 11, 0, 6, 7, 1, 99, 5, 12, 12, 13, 13, 14, 6, 99, 99, 99, 99, 99, 99, 99, 99, 99, 99, 99, 99, 0, 6, 7, 1, 99, 99, 99, 99, 0, 6, 7, 1, 99, 99, 99, 99, 99, 99, 99, 99, 99, 99, 99, 99, 99, 99, 99, 99, 99, 99, 99, 99, 0, 6, 7, 1, 99, 99, 99, 99, 0, 6, 7, 1, 99, 99, 99, 99, 99, 99, 99, 99, 99, 99, 99, 99, 99, 99, 99, 99, 99, 99, 99, 99, 99, 99, 99, 1, 99, 99, 99, 99, 99, 99, 99, 1, 99, 99, 99, 99, 99, 99, 99, 99, 99, 99, 99, 99, 99, 99, 99, 99, 99, 99, 99, 99, 99, 99, 99, 1, 99, 99, 99, 99, 99, 99, 99, 1, 99, 99, 99, 99, 99, 99, 99, 99, 99, 99, 99, 99, 99, 99, 99, 99, 99, 99, 99, 99, 99, 99, 99, 1, 99, 99, 99, 99, 99, 99, 99, 1, 99, 99, 99, 99, 99, 99, 99, 99, 99, 99, 99, 99, 99, 99, 99, 99, 99, 99, 99, 99, 99, 99, 99, 1, 99, 99, 99, 99, 99, 99, 99, 1, 99, 99, 99, 99, 99, 99, 99, 99, 99, 99, 99, 99, 99, 99, 99, 99, 99, 99, 99, 99, 99, 99, 99, 1, 99, 99, 99, 99, 99, 99, 99, 1] : List Nat).getD i 99
abbrev ct_tys (cA : Nat → ClassId) : List (ClassId × FieldType) := [(cA 0, .int), (cA 1, .boolean), (cA 2, .object "CraneTurns$Crane"), (cA 3, .object "CraneTurns$Job"), (cA 4, .long)]
theorem ct_lay : mm_lay ct_K ct_kd ct_N := mm_layB_ok (by decide +kernel) (by decide +kernel)
def ct_NW : List mm_N := [("CraneTurns$Yard", 74, ⟨"CraneTurns", "within", "(III)Z"⟩, "CraneTurns"), ("CraneTurns$Crane", 39, ⟨"CraneTurns", "within", "(III)Z"⟩, "CraneTurns"), ("CraneTurns$Planner", 59, ⟨"CraneTurns", "within", "(III)Z"⟩, "CraneTurns")]
def ct_nm : List MethodName := [⟨"CraneTurns", "near", "()I"⟩,
  ⟨"CraneTurns", "within", "(III)Z"⟩,
  ⟨"CraneTurns$Crane", "stand", "(III)V"⟩,
  ⟨"CraneTurns$Crane", "reaches", "(LCraneTurns$Job;)Z"⟩,
  ⟨"CraneTurns$Crane", "hasGoal", "()Z"⟩,
  ⟨"CraneTurns$Crane", "queue", "(I)V"⟩,
  ⟨"CraneTurns$Crane", "unqueue", "(I)V"⟩,
  ⟨"CraneTurns$Crane", "copyOf", "(LCraneTurns$Crane;)V"⟩,
  ⟨"CraneTurns$Job", "copyOf", "(LCraneTurns$Job;)V"⟩,
  ⟨"CraneTurns$Planner", "search", "(LCraneTurns$Yard;I)I"⟩,
  ⟨"CraneTurns$Planner", "bestGiving", "(I)I"⟩,
  ⟨"CraneTurns$Planner", "extendWay", "(LCraneTurns$Yard;I)V"⟩,
  ⟨"CraneTurns$Planner", "isTriedAlready", "(III)Z"⟩,
  ⟨"CraneTurns$Planner", "tryWay", "(LCraneTurns$Yard;)V"⟩,
  ⟨"CraneTurns$Planner", "keepWay", "(I)V"⟩,
  ⟨"CraneTurns$Yard", "hasTrack", "()Z"⟩,
  ⟨"CraneTurns$Yard", "lay", "(IIII)V"⟩,
  ⟨"CraneTurns$Yard", "addJob", "(III)I"⟩,
  ⟨"CraneTurns$Yard", "hand", "(II)V"⟩,
  ⟨"CraneTurns$Yard", "free", "(I)V"⟩,
  ⟨"CraneTurns$Yard", "countFree", "()I"⟩,
  ⟨"CraneTurns$Yard", "floorOf", "(I)I"⟩,
  ⟨"CraneTurns$Yard", "ceilingOf", "(I)I"⟩,
  ⟨"CraneTurns$Yard", "hasRoom", "(II)Z"⟩,
  ⟨"CraneTurns$Yard", "passSecond", "()V"⟩,
  ⟨"CraneTurns$Yard", "passSecondOf", "(I)I"⟩,
  ⟨"CraneTurns$Yard", "takeFirst", "(LCraneTurns$Crane;)V"⟩,
  ⟨"CraneTurns$Yard", "handleIfThere", "(LCraneTurns$Crane;)V"⟩,
  ⟨"CraneTurns$Yard", "liftOn", "(LCraneTurns$Crane;)V"⟩,
  ⟨"CraneTurns$Yard", "setOn", "(LCraneTurns$Crane;)V"⟩,
  ⟨"CraneTurns$Yard", "placeOutOfTheWay", "(I)I"⟩,
  ⟨"CraneTurns$Yard", "moveToward", "(II)V"⟩,
  ⟨"CraneTurns$Yard", "copyOf", "(LCraneTurns$Yard;)V"⟩,
  ⟨"CraneTurnsModel", "thrown", "()I"⟩,
  ⟨"CraneTurnsModel", "throwing", "(ZZZZ)Z"⟩,
  ⟨"CraneTurnsModel", "in", "(III)Z"⟩,
  ⟨"CraneTurnsModel", "isCrane", "(I)Z"⟩,
  ⟨"CraneTurnsModel", "isJob", "(I)Z"⟩,
  ⟨"CraneTurnsModel", "ofCrane", "(II)I"⟩,
  ⟨"CraneTurnsModel", "setCrane", "(III)V"⟩,
  ⟨"CraneTurnsModel", "ofJob", "(II)I"⟩,
  ⟨"CraneTurnsModel", "setJob", "(III)V"⟩,
  ⟨"CraneTurnsModel", "track", "(IIII)V"⟩,
  ⟨"CraneTurnsModel", "crane", "(IIII)V"⟩,
  ⟨"CraneTurnsModel", "job", "(III)I"⟩,
  ⟨"CraneTurnsModel", "reaches", "(II)Z"⟩,
  ⟨"CraneTurnsModel", "giveTo", "(II)V"⟩,
  ⟨"CraneTurnsModel", "give", "(II)V"⟩,
  ⟨"CraneTurnsModel", "take", "(I)V"⟩,
  ⟨"CraneTurnsModel", "broken", "(IZ)V"⟩,
  ⟨"CraneTurnsModel", "firstOf", "(I)I"⟩,
  ⟨"CraneTurnsModel", "hasGoal", "(I)Z"⟩,
  ⟨"CraneTurnsModel", "goalOf", "(I)I"⟩,
  ⟨"CraneTurnsModel", "begins", "(II)V"⟩,
  ⟨"CraneTurnsModel", "takesJob", "(I)V"⟩,
  ⟨"CraneTurnsModel", "goes", "(II)Z"⟩,
  ⟨"CraneTurnsModel", "lessToGo", "(I)V"⟩,
  ⟨"CraneTurnsModel", "givesWay", "(I)V"⟩,
  ⟨"CraneTurnsModel", "second", "(I)V"⟩,
  ⟨"CraneTurnsModel", "secondOfAll", "()V"⟩,
  ⟨"CraneTurnsModel", "run", "(I)I"⟩,
  ⟨"CraneTurnsModel", "at", "(II)I"⟩,
  ⟨"CraneTurnsModel", "state", "(II)I"⟩,
  ⟨"CraneTurnsModel", "near", "()I"⟩,
  ⟨"CraneTurnsModel", "isAllDone", "()Z"⟩,
  ⟨"CraneTurnsModel", "secondsOf", "(II)I"⟩,
  ⟨"CraneTurnsModel", "isInWay", "(I)Z"⟩,
  ⟨"CraneTurnsModel", "may", "(I)Z"⟩,
  ⟨"CraneTurnsModel", "plan", "(I)I"⟩,
  ⟨"CraneTurnsModel", "planned", "(I)I"⟩]
def ct_cd : List ByteArray := [prog_1_method_11_code, prog_1_method_14_code, prog_2_method_2_code, prog_2_method_3_code, prog_2_method_4_code, prog_2_method_5_code, prog_2_method_6_code, prog_2_method_7_code, prog_3_method_2_code, prog_4_method_2_code, prog_4_method_3_code, prog_4_method_4_code, prog_4_method_5_code, prog_4_method_6_code, prog_4_method_7_code, prog_5_method_2_code, prog_5_method_3_code, prog_5_method_4_code, prog_5_method_5_code, prog_5_method_6_code, prog_5_method_7_code, prog_5_method_8_code, prog_5_method_9_code, prog_5_method_10_code, prog_5_method_11_code, prog_5_method_12_code, prog_5_method_13_code, prog_5_method_14_code, prog_5_method_15_code, prog_5_method_16_code, prog_5_method_17_code, prog_5_method_18_code, prog_5_method_19_code, prog_7_method_2_code, prog_7_method_3_code, prog_7_method_4_code, prog_7_method_5_code, prog_7_method_6_code, prog_7_method_7_code, prog_7_method_8_code, prog_7_method_9_code, prog_7_method_10_code, prog_7_method_11_code, prog_7_method_12_code, prog_7_method_13_code, prog_7_method_14_code, prog_7_method_15_code, prog_7_method_16_code, prog_7_method_17_code, prog_7_method_18_code, prog_7_method_19_code, prog_7_method_20_code, prog_7_method_21_code, prog_7_method_22_code, prog_7_method_23_code, prog_7_method_24_code, prog_7_method_25_code, prog_7_method_26_code, prog_7_method_27_code, prog_7_method_28_code, prog_7_method_29_code, prog_7_method_30_code, prog_7_method_31_code, prog_7_method_32_code, prog_7_method_33_code, prog_7_method_34_code, prog_7_method_35_code, prog_7_method_36_code, prog_7_method_37_code, prog_7_method_38_code]
def ct_mx : List Nat := [1, 3, 4, 2, 1, 2, 4, 2, 2, 3, 2, 5, 4, 3, 3, 1, 6, 5, 3, 3, 3, 2, 2, 3, 2, 4, 3, 2, 2, 2, 3, 4, 3, 1, 5, 3, 2, 2, 3, 4, 3, 4, 7, 8, 5, 3, 3, 4, 3, 4, 5, 2, 2, 3, 3, 5, 3, 4, 3, 3, 3, 5, 3, 1, 3, 6, 4, 4, 7, 2]
def ct_rt0 : List (Option FieldType) := [some .int, some .boolean, none, some .boolean, some .boolean, none, none, none, none, some .int, some .int, none, some .boolean, none, none, some .boolean, none, some .int, none, none, some .int, some .int, some .int, some .boolean, none, some .int, none, none, none, none, some .int, none, none, some .int, some .boolean, some .boolean, some .boolean, some .boolean, some .int, none, some .int, none, none, none, some .int, some .boolean, none, none, none, none, some .int, some .boolean, some .int, none, none, some .boolean, none, none, none, none, some .int, some .int, some .int, some .int, some .boolean, some .int, some .boolean, some .boolean, some .int, some .int]
def ct_T : mm_T := (fun z => ct_nm.getD z ⟨"", "", ""⟩, fun z => ct_cd.getD z ⟨#[]⟩, fun z => ct_mx.getD z 0, fun z => ct_rt0.getD z none)
/-- 0: CraneTurns.near()I -/
def pg_Ct_near : List (Nat × mm_F) := [(0, mi_aload 0 1), (1, mi_getr 4 3 8), (4, mi_getf 3 5)]
def rt_Ct_near : List (Nat × Nat) := [(7, 1)]
/-- 1: CraneTurns.within(III)Z -/
def pg_Ct_within : List (Nat × mm_F) := [(0, mi_iload 0 1), (1, mi_iload 1 1), (2, mi_cmp (fun x y => x < y) 14), (5, mi_iload 0 1), (6, mi_iload 2 1), (7, mi_cmp (fun x y => y < x) 14), (10, mi_push 1 1), (11, mi_goto 15), (14, mi_push 0 1)]
def rt_Ct_within : List (Nat × Nat) := [(15, 2)]
/-- 2: CraneTurns$Crane.stand(III)V -/
def pg_Cr_stand : List (Nat × mm_F) := [(0, mi_aload 0 1), (1, mi_iload 1 1), (2, mi_putf 0 0), (5, mi_aload 0 1), (6, mi_iload 2 1), (7, mi_putf 0 1), (10, mi_aload 0 1), (11, mi_iload 3 1), (12, mi_putf 0 2)]
def rt_Cr_stand : List (Nat × Nat) := [(15, 0)]
/-- 3: CraneTurns$Crane.reaches(LCraneTurns$Job;)Z -/
def pg_Cr_reaches : List (Nat × mm_F) := [(0, mi_aload 1 1), (1, mi_getf 1 0), (4, mi_aload 0 1), (5, mi_getf 0 1), (8, mi_aload 0 1), (9, mi_getf 0 2), (12, mi_call 1 3 none), (15, mi_if (fun x => x = 0) 40), (18, mi_aload 1 1), (19, mi_getf 1 1), (22, mi_aload 0 1), (23, mi_getf 0 1), (26, mi_aload 0 1), (27, mi_getf 0 2), (30, mi_call 1 3 none), (33, mi_if (fun x => x = 0) 40), (36, mi_push 1 1), (37, mi_goto 41), (40, mi_push 0 1)]
def rt_Cr_reaches : List (Nat × Nat) := [(41, 2)]
/-- 4: CraneTurns$Crane.hasGoal()Z -/
def pg_Cr_hasGoal : List (Nat × mm_F) := [(0, mi_aload 0 1), (1, mi_getf 0 5), (4, mi_push 1 1), (5, mi_cmp (fun x y => x = y) 16), (8, mi_aload 0 1), (9, mi_getf 0 5), (12, mi_push 3 1), (13, mi_cmp (fun x y => ¬ x = y) 20), (16, mi_push 1 1), (17, mi_goto 21), (20, mi_push 0 1)]
def rt_Cr_hasGoal : List (Nat × Nat) := [(21, 2)]
/-- 5: CraneTurns$Crane.queue(I)V -/
def pg_Cr_queue : List (Nat × mm_F) := [(0, mi_aload 0 1), (1, mi_getf 0 10), (4, mi_push 8 2), (6, mi_cmp (fun x y => y ≤ x) 29), (9, mi_aload 0 1), (10, mi_getr 0 7 2), (13, mi_aload 0 1), (14, mi_getf 0 10), (17, mi_iload 1 1), (18, mi_ast 7 8), (19, mi_aload 0 1), (20, mi_dup), (21, mi_getf 0 10), (24, mi_push 1 1), (25, mi_bin (fun x y => x + y) 1), (26, mi_putf 0 10)]
def rt_Cr_queue : List (Nat × Nat) := [(29, 0)]
/-- 6: CraneTurns$Crane.unqueue(I)V -/
def pg_Cr_unqueue : List (Nat × mm_F) := [(0, mi_push 0 1), (1, mi_istore 2 1), (2, mi_push 0 1), (3, mi_istore 3 1), (4, mi_iload 3 1), (5, mi_aload 0 1), (6, mi_getf 0 10), (9, mi_cmp (fun x y => y ≤ x) 43), (12, mi_aload 0 1), (13, mi_getr 0 7 2), (16, mi_iload 3 1), (17, mi_ald 7 8), (18, mi_iload 1 1), (19, mi_cmp (fun x y => x = y) 37), (22, mi_aload 0 1), (23, mi_getr 0 7 2), (26, mi_iload 2 1), (27, mi_aload 0 1), (28, mi_getr 0 7 2), (31, mi_iload 3 1), (32, mi_ald 7 8), (33, mi_ast 7 8), (34, mi_iinc 2 1), (37, mi_iinc 3 1), (40, mi_goto 4), (43, mi_aload 0 1), (44, mi_iload 2 1), (45, mi_putf 0 10)]
def rt_Cr_unqueue : List (Nat × Nat) := [(48, 0)]
/-- 7: CraneTurns$Crane.copyOf(LCraneTurns$Crane;)V -/
def pg_Cr_copyOf : List (Nat × mm_F) := [(0, mi_aload 0 1), (1, mi_aload 1 1), (2, mi_getf 0 0), (5, mi_aload 1 1), (6, mi_getf 0 1), (9, mi_aload 1 1), (10, mi_getf 0 2), (13, mi_call 2 4 (some 0)), (16, mi_aload 0 1), (17, mi_aload 1 1), (18, mi_getf 0 3), (21, mi_putz 0 3), (24, mi_aload 0 1), (25, mi_aload 1 1), (26, mi_getf 0 4), (29, mi_putf 0 4), (32, mi_aload 0 1), (33, mi_aload 1 1), (34, mi_getf 0 5), (37, mi_putf 0 5), (40, mi_aload 0 1), (41, mi_aload 1 1), (42, mi_getf 0 6), (45, mi_putf 0 6), (48, mi_aload 0 1), (49, mi_aload 1 1), (50, mi_getf 0 7), (53, mi_putf 0 7), (56, mi_aload 0 1), (57, mi_aload 1 1), (58, mi_getf 0 10), (61, mi_putf 0 10), (64, mi_aload 1 1), (65, mi_getr 0 6 1), (68, mi_push 0 1), (69, mi_aload 0 1), (70, mi_getr 0 6 1), (73, mi_push 0 1), (74, mi_push 4 1), (75, mi_copy 6 4), (78, mi_aload 1 1), (79, mi_getr 0 7 2), (82, mi_push 0 1), (83, mi_aload 0 1), (84, mi_getr 0 7 2), (87, mi_push 0 1), (88, mi_push 8 2), (90, mi_copy 7 8)]
def rt_Cr_copyOf : List (Nat × Nat) := [(93, 0)]
/-- 8: CraneTurns$Job.copyOf(LCraneTurns$Job;)V -/
def pg_Jb_copyOf : List (Nat × mm_F) := [(0, mi_aload 0 1), (1, mi_aload 1 1), (2, mi_getf 1 0), (5, mi_putf 1 0), (8, mi_aload 0 1), (9, mi_aload 1 1), (10, mi_getf 1 1), (13, mi_putf 1 1), (16, mi_aload 0 1), (17, mi_aload 1 1), (18, mi_getf 1 2), (21, mi_putf 1 2), (24, mi_aload 0 1), (25, mi_aload 1 1), (26, mi_getf 1 3), (29, mi_putf 1 3), (32, mi_aload 0 1), (33, mi_aload 1 1), (34, mi_getf 1 4), (37, mi_putf 1 4), (40, mi_aload 0 1), (41, mi_aload 1 1), (42, mi_getf 1 5), (45, mi_putf 1 5)]
def rt_Jb_copyOf : List (Nat × Nat) := [(48, 0)]
/-- 9: CraneTurns$Planner.search(LCraneTurns$Yard;I)I -/
def pg_Pl_search : List (Nat × mm_F) := [(0, mi_aload 0 1), (1, mi_aload 1 1), (2, mi_call 20 1 (some 3)), (5, mi_push 4 1), (6, mi_mm (fun x y => if y < x then y else x)), (9, mi_putf 2 5), (12, mi_aload 0 1), (13, mi_push 0 1), (14, mi_putf 2 6), (17, mi_aload 0 1), (18, mi_push (-1) 1), (19, mi_putf 2 7), (22, mi_aload 0 1), (23, mi_iload 2 1), (24, mi_putf 2 8), (27, mi_aload 0 1), (28, mi_aload 1 1), (29, mi_push 0 1), (30, mi_call 11 3 (some 2)), (33, mi_aload 0 1), (34, mi_getf 2 7)]
def rt_Pl_search : List (Nat × Nat) := [(37, 1)]
/-- 10: CraneTurns$Planner.bestGiving(I)I -/
def pg_Pl_bestGiving : List (Nat × mm_F) := [(0, mi_iload 1 1), (1, mi_push 0 1), (2, mi_aload 0 1), (3, mi_getf 2 6), (6, mi_push 1 1), (7, mi_bin (fun x y => x - y) 1), (8, mi_call 1 3 none), (11, mi_if (fun x => x = 0) 23), (14, mi_aload 0 1), (15, mi_getr 2 6 4), (18, mi_iload 1 1), (19, mi_ald 6 4), (20, mi_goto 24), (23, mi_push (-1) 1)]
def rt_Pl_bestGiving : List (Nat × Nat) := [(24, 1)]
/-- 11: CraneTurns$Planner.extendWay(LCraneTurns$Yard;I)V -/
def pg_Pl_extendWay : List (Nat × mm_F) := [(0, mi_iload 2 1), (1, mi_aload 0 1), (2, mi_getf 2 5), (5, mi_cmp (fun x y => x < y) 14), (8, mi_aload 0 1), (9, mi_aload 1 1), (10, mi_call 13 2 (some 2)), (14, mi_push 0 1), (15, mi_istore 3 1), (16, mi_iload 3 1), (17, mi_aload 1 1), (18, mi_getf 3 6), (21, mi_cmp (fun x y => y ≤ x) 139), (24, mi_aload 1 1), (25, mi_getr 3 11 2), (28, mi_iload 3 1), (29, mi_aald 11 8 1 4), (30, mi_getf 1 3), (33, mi_if (fun x => ¬ x = 0) 133), (36, mi_aload 0 1), (37, mi_getr 2 8 1), (40, mi_iload 3 1), (41, mi_ald 8 8), (42, mi_if (fun x => x = 0) 48), (45, mi_goto 133), (48, mi_aload 0 1), (49, mi_getr 2 8 1), (52, mi_iload 3 1), (53, mi_push 1 1), (54, mi_zst 8 8), (55, mi_push 0 1), (56, mi_istore 4 2), (58, mi_iload 4 2), (60, mi_aload 1 1), (61, mi_getf 3 0), (64, mi_cmp (fun x y => y ≤ x) 126), (67, mi_aload 1 1), (68, mi_getr 3 10 1), (71, mi_iload 4 2), (73, mi_aald 10 3 0 2), (74, mi_aload 1 1), (75, mi_getr 3 11 2), (78, mi_iload 3 1), (79, mi_aald 11 8 1 4), (80, mi_call 3 2 (some 0)), (83, mi_if (fun x => x = 0) 120), (86, mi_aload 0 1), (87, mi_iload 2 1), (88, mi_iload 3 1), (89, mi_iload 4 2), (91, mi_call 12 4 (some 2)), (94, mi_if (fun x => ¬ x = 0) 120), (97, mi_aload 0 1), (98, mi_getr 2 6 2), (101, mi_iload 2 1), (102, mi_iload 3 1), (103, mi_ast 6 4), (104, mi_aload 0 1), (105, mi_getr 2 6 3), (108, mi_iload 2 1), (109, mi_iload 4 2), (111, mi_ast 6 4), (112, mi_aload 0 1), (113, mi_aload 1 1), (114, mi_iload 2 1), (115, mi_push 1 1), (116, mi_bin (fun x y => x + y) 1), (117, mi_call 11 3 (some 2)), (120, mi_iinc 4 1), (123, mi_goto 58), (126, mi_aload 0 1), (127, mi_getr 2 8 1), (130, mi_iload 3 1), (131, mi_push 0 1), (132, mi_zst 8 8), (133, mi_iinc 3 1), (136, mi_goto 16)]
def rt_Pl_extendWay : List (Nat × Nat) := [(13, 0), (139, 0)]
/-- 12: CraneTurns$Planner.isTriedAlready(III)Z -/
def pg_Pl_isTriedAlready : List (Nat × mm_F) := [(0, mi_iload 1 1), (1, mi_if (fun x => x ≤ 0) 32), (4, mi_aload 0 1), (5, mi_getr 2 6 3), (8, mi_iload 1 1), (9, mi_push 1 1), (10, mi_bin (fun x y => x - y) 1), (11, mi_ald 6 4), (12, mi_iload 3 1), (13, mi_cmp (fun x y => x = y) 32), (16, mi_aload 0 1), (17, mi_getr 2 6 2), (20, mi_iload 1 1), (21, mi_push 1 1), (22, mi_bin (fun x y => x - y) 1), (23, mi_ald 6 4), (24, mi_iload 2 1), (25, mi_cmp (fun x y => x ≤ y) 32), (28, mi_push 1 1), (29, mi_goto 33), (32, mi_push 0 1)]
def rt_Pl_isTriedAlready : List (Nat × Nat) := [(33, 2)]
/-- 13: CraneTurns$Planner.tryWay(LCraneTurns$Yard;)V -/
def pg_Pl_tryWay : List (Nat × mm_F) := [(0, mi_aload 0 1), (1, mi_getr 2 3 15), (4, mi_aload 1 1), (5, mi_call 32 2 (some 3)), (8, mi_push 0 1), (9, mi_istore 2 1), (10, mi_iload 2 1), (11, mi_aload 0 1), (12, mi_getf 2 5), (15, mi_cmp (fun x y => y ≤ x) 43), (18, mi_aload 0 1), (19, mi_getr 2 3 15), (22, mi_aload 0 1), (23, mi_getr 2 6 2), (26, mi_iload 2 1), (27, mi_ald 6 4), (28, mi_aload 0 1), (29, mi_getr 2 6 3), (32, mi_iload 2 1), (33, mi_ald 6 4), (34, mi_call 18 3 (some 3)), (37, mi_iinc 2 1), (40, mi_goto 10), (43, mi_push 0 1), (44, mi_istore 2 1), (45, mi_aload 0 1), (46, mi_getr 2 3 15), (49, mi_getf 3 7), (52, mi_if (fun x => x ≤ 0) 76), (55, mi_iload 2 1), (56, mi_aload 0 1), (57, mi_getf 2 8), (60, mi_cmp (fun x y => y ≤ x) 76), (63, mi_aload 0 1), (64, mi_getr 2 3 15), (67, mi_call 24 1 (some 3)), (70, mi_iinc 2 1), (73, mi_goto 45), (76, mi_aload 0 1), (77, mi_getr 2 3 15), (80, mi_getf 3 7), (83, mi_if (fun x => ¬ x = 0) 99), (86, mi_iload 2 1), (87, mi_aload 0 1), (88, mi_getf 2 8), (91, mi_cmp (fun x y => y < x) 99), (94, mi_aload 0 1), (95, mi_iload 2 1), (96, mi_call 14 2 (some 2))]
def rt_Pl_tryWay : List (Nat × Nat) := [(99, 0)]
/-- 14: CraneTurns$Planner.keepWay(I)V -/
def pg_Pl_keepWay : List (Nat × mm_F) := [(0, mi_aload 0 1), (1, mi_iload 1 1), (2, mi_putf 2 7), (5, mi_aload 0 1), (6, mi_iload 1 1), (7, mi_push 1 1), (8, mi_bin (fun x y => x - y) 1), (9, mi_putf 2 8), (12, mi_aload 0 1), (13, mi_aload 0 1), (14, mi_getf 2 5), (17, mi_putf 2 6), (20, mi_push 0 1), (21, mi_istore 2 1), (22, mi_iload 2 1), (23, mi_aload 0 1), (24, mi_getf 2 5), (27, mi_cmp (fun x y => y ≤ x) 58), (30, mi_aload 0 1), (31, mi_getr 2 6 4), (34, mi_iload 2 1), (35, mi_push 10 2), (37, mi_aload 0 1), (38, mi_getr 2 6 2), (41, mi_iload 2 1), (42, mi_ald 6 4), (43, mi_bin (fun x y => x * y) 1), (44, mi_aload 0 1), (45, mi_getr 2 6 3), (48, mi_iload 2 1), (49, mi_ald 6 4), (50, mi_bin (fun x y => x + y) 1), (51, mi_ast 6 4), (52, mi_iinc 2 1), (55, mi_goto 22)]
def rt_Pl_keepWay : List (Nat × Nat) := [(58, 0)]
/-- 15: CraneTurns$Yard.hasTrack()Z -/
def pg_Yd_hasTrack : List (Nat × mm_F) := [(0, mi_aload 0 1), (1, mi_getf 3 0), (4, mi_if (fun x => x ≤ 0) 11), (7, mi_push 1 1), (8, mi_goto 12), (11, mi_push 0 1)]
def rt_Yd_hasTrack : List (Nat × Nat) := [(12, 2)]
/-- 16: CraneTurns$Yard.lay(IIII)V -/
def pg_Yd_lay : List (Nat × mm_F) := [(0, mi_aload 0 1), (1, mi_iload 1 1), (2, mi_putf 3 0), (5, mi_aload 0 1), (6, mi_iload 2 1), (7, mi_putf 3 1), (10, mi_aload 0 1), (11, mi_iload 3 1), (12, mi_putf 3 2), (15, mi_aload 0 1), (16, mi_iload 4 2), (18, mi_putf 3 3), (21, mi_push 0 1), (22, mi_istore 5 2), (24, mi_iload 5 2), (26, mi_aload 0 1), (27, mi_getf 3 0), (30, mi_cmp (fun x y => y ≤ x) 60), (33, mi_aload 0 1), (34, mi_getr 3 10 1), (37, mi_iload 5 2), (39, mi_aald 10 3 0 2), (40, mi_iload 5 2), (42, mi_aload 0 1), (43, mi_getf 3 1), (46, mi_bin (fun x y => x * y) 1), (47, mi_push 0 1), (48, mi_push 200 3), (51, mi_call 2 4 (some 0)), (54, mi_iinc 5 1), (57, mi_goto 24)]
def rt_Yd_lay : List (Nat × Nat) := [(60, 0)]
/-- 17: CraneTurns$Yard.addJob(III)I -/
def pg_Yd_addJob : List (Nat × mm_F) := [(0, mi_aload 0 1), (1, mi_getf 3 6), (4, mi_istore 4 2), (6, mi_aload 0 1), (7, mi_getr 3 11 2), (10, mi_iload 4 2), (12, mi_aald 11 8 1 4), (13, mi_iload 1 1), (14, mi_putf 1 0), (17, mi_aload 0 1), (18, mi_getr 3 11 2), (21, mi_iload 4 2), (23, mi_aald 11 8 1 4), (24, mi_iload 2 1), (25, mi_putf 1 1), (28, mi_aload 0 1), (29, mi_getr 3 11 2), (32, mi_iload 4 2), (34, mi_aald 11 8 1 4), (35, mi_iload 3 1), (36, mi_putf 1 2), (39, mi_aload 0 1), (40, mi_dup), (41, mi_getf 3 6), (44, mi_push 1 1), (45, mi_bin (fun x y => x + y) 1), (46, mi_putf 3 6), (49, mi_aload 0 1), (50, mi_dup), (51, mi_getf 3 7), (54, mi_push 1 1), (55, mi_bin (fun x y => x + y) 1), (56, mi_putf 3 7), (59, mi_iload 4 2)]
def rt_Yd_addJob : List (Nat × Nat) := [(61, 1)]
/-- 18: CraneTurns$Yard.hand(II)V -/
def pg_Yd_hand : List (Nat × mm_F) := [(0, mi_aload 0 1), (1, mi_getr 3 11 2), (4, mi_iload 1 1), (5, mi_aald 11 8 1 4), (6, mi_push 1 1), (7, mi_putf 1 3), (10, mi_aload 0 1), (11, mi_getr 3 11 2), (14, mi_iload 1 1), (15, mi_aald 11 8 1 4), (16, mi_iload 2 1), (17, mi_putf 1 4), (20, mi_aload 0 1), (21, mi_getr 3 10 1), (24, mi_iload 2 1), (25, mi_aald 10 3 0 2), (26, mi_iload 1 1), (27, mi_call 5 2 (some 0)), (30, mi_aload 0 1), (31, mi_push 1 1), (32, mi_putz 3 8)]
def rt_Yd_hand : List (Nat × Nat) := [(35, 0)]
/-- 19: CraneTurns$Yard.free(I)V -/
def pg_Yd_free : List (Nat × mm_F) := [(0, mi_aload 0 1), (1, mi_getr 3 11 2), (4, mi_iload 1 1), (5, mi_aald 11 8 1 4), (6, mi_getf 1 4), (9, mi_istore 2 1), (10, mi_iload 2 1), (11, mi_push 0 1), (12, mi_aload 0 1), (13, mi_getf 3 0), (16, mi_push 1 1), (17, mi_bin (fun x y => x - y) 1), (18, mi_call 1 3 none), (21, mi_if (fun x => x = 0) 34), (24, mi_aload 0 1), (25, mi_getr 3 10 1), (28, mi_iload 2 1), (29, mi_aald 10 3 0 2), (30, mi_iload 1 1), (31, mi_call 6 2 (some 0)), (34, mi_aload 0 1), (35, mi_getr 3 11 2), (38, mi_iload 1 1), (39, mi_aald 11 8 1 4), (40, mi_push 0 1), (41, mi_putf 1 3), (44, mi_aload 0 1), (45, mi_getr 3 11 2), (48, mi_iload 1 1), (49, mi_aald 11 8 1 4), (50, mi_push (-1) 1), (51, mi_putf 1 4)]
def rt_Yd_free : List (Nat × Nat) := [(54, 0)]
/-- 20: CraneTurns$Yard.countFree()I -/
def pg_Yd_countFree : List (Nat × mm_F) := [(0, mi_push 0 1), (1, mi_istore 1 1), (2, mi_push 0 1), (3, mi_istore 2 1), (4, mi_iload 2 1), (5, mi_aload 0 1), (6, mi_getf 3 6), (9, mi_cmp (fun x y => y ≤ x) 33), (12, mi_aload 0 1), (13, mi_getr 3 11 2), (16, mi_iload 2 1), (17, mi_aald 11 8 1 4), (18, mi_getf 1 3), (21, mi_if (fun x => ¬ x = 0) 27), (24, mi_iinc 1 1), (27, mi_iinc 2 1), (30, mi_goto 4), (33, mi_iload 1 1)]
def rt_Yd_countFree : List (Nat × Nat) := [(34, 1)]
/-- 21: CraneTurns$Yard.floorOf(I)I -/
def pg_Yd_floorOf : List (Nat × mm_F) := [(0, mi_iload 1 1), (1, mi_if (fun x => x ≤ 0) 23), (4, mi_aload 0 1), (5, mi_getr 3 10 1), (8, mi_iload 1 1), (9, mi_push 1 1), (10, mi_bin (fun x y => x - y) 1), (11, mi_aald 10 3 0 2), (12, mi_getf 0 0), (15, mi_aload 0 1), (16, mi_getf 3 1), (19, mi_bin (fun x y => x + y) 1), (20, mi_goto 24), (23, mi_push 0 1)]
def rt_Yd_floorOf : List (Nat × Nat) := [(24, 1)]
/-- 22: CraneTurns$Yard.ceilingOf(I)I -/
def pg_Yd_ceilingOf : List (Nat × mm_F) := [(0, mi_iload 1 1), (1, mi_push 1 1), (2, mi_bin (fun x y => x + y) 1), (3, mi_aload 0 1), (4, mi_getf 3 0), (7, mi_cmp (fun x y => y ≤ x) 29), (10, mi_aload 0 1), (11, mi_getr 3 10 1), (14, mi_iload 1 1), (15, mi_push 1 1), (16, mi_bin (fun x y => x + y) 1), (17, mi_aald 10 3 0 2), (18, mi_getf 0 0), (21, mi_aload 0 1), (22, mi_getf 3 1), (25, mi_bin (fun x y => x - y) 1), (26, mi_goto 32), (29, mi_push 200 3)]
def rt_Yd_ceilingOf : List (Nat × Nat) := [(32, 1)]
/-- 23: CraneTurns$Yard.hasRoom(II)Z -/
def pg_Yd_hasRoom : List (Nat × mm_F) := [(0, mi_iload 2 1), (1, mi_aload 0 1), (2, mi_iload 1 1), (3, mi_call 21 2 (some 3)), (6, mi_aload 0 1), (7, mi_iload 1 1), (8, mi_call 22 2 (some 3)), (11, mi_call 1 3 none)]
def rt_Yd_hasRoom : List (Nat × Nat) := [(14, 2)]
/-- 24: CraneTurns$Yard.passSecond()V -/
def pg_Yd_passSecond : List (Nat × mm_F) := [(0, mi_push 0 1), (1, mi_istore 1 1), (2, mi_iload 1 1), (3, mi_aload 0 1), (4, mi_getf 3 0), (7, mi_cmp (fun x y => y ≤ x) 35), (10, mi_aload 0 1), (11, mi_getr 3 10 1), (14, mi_iload 1 1), (15, mi_aald 10 3 0 2), (16, mi_getr 0 6 1), (19, mi_aload 0 1), (20, mi_iload 1 1), (21, mi_call 25 2 (some 3)), (24, mi_dup2), (25, mi_ald 6 4), (26, mi_push 1 1), (27, mi_bin (fun x y => x + y) 1), (28, mi_ast 6 4), (29, mi_iinc 1 1), (32, mi_goto 2), (35, mi_aload 0 1), (36, mi_dup), (37, mi_getf 3 4), (40, mi_push 1 1), (41, mi_bin (fun x y => x + y) 1), (42, mi_putf 3 4), (45, mi_push 1 1), (46, mi_istore 1 1), (47, mi_iload 1 1), (48, mi_aload 0 1), (49, mi_getf 3 0), (52, mi_cmp (fun x y => y ≤ x) 93), (55, mi_aload 0 1), (56, mi_aload 0 1), (57, mi_getf 3 5), (60, mi_aload 0 1), (61, mi_getr 3 10 1), (64, mi_iload 1 1), (65, mi_aald 10 3 0 2), (66, mi_getf 0 0), (69, mi_aload 0 1), (70, mi_getr 3 10 1), (73, mi_iload 1 1), (74, mi_push 1 1), (75, mi_bin (fun x y => x - y) 1), (76, mi_aald 10 3 0 2), (77, mi_getf 0 0), (80, mi_bin (fun x y => x - y) 1), (81, mi_mm (fun x y => if y < x then y else x)), (84, mi_putf 3 5), (87, mi_iinc 1 1), (90, mi_goto 47)]
def rt_Yd_passSecond : List (Nat × Nat) := [(93, 0)]
/-- 25: CraneTurns$Yard.passSecondOf(I)I -/
def pg_Yd_passSecondOf : List (Nat × mm_F) := [(0, mi_aload 0 1), (1, mi_getr 3 10 1), (4, mi_iload 1 1), (5, mi_aald 10 3 0 2), (6, mi_astore 2 1), (7, mi_aload 2 1), (8, mi_getf 0 3), (11, mi_if (fun x => x = 0) 16), (14, mi_push 3 1), (16, mi_aload 2 1), (17, mi_getf 0 4), (20, mi_push (-1) 1), (21, mi_cmp (fun x y => ¬ x = y) 29), (24, mi_aload 0 1), (25, mi_aload 2 1), (26, mi_call 26 2 (some 3)), (29, mi_aload 2 1), (30, mi_getf 0 5), (33, mi_tsw 1 4 [78, 64, 78, 71] 111), (64, mi_aload 0 1), (65, mi_aload 2 1), (66, mi_call 28 2 (some 3)), (69, mi_push 0 1), (71, mi_aload 0 1), (72, mi_aload 2 1), (73, mi_call 29 2 (some 3)), (76, mi_push 0 1), (78, mi_aload 2 1), (79, mi_getf 0 0), (82, mi_istore 3 1), (83, mi_aload 0 1), (84, mi_iload 1 1), (85, mi_aload 2 1), (86, mi_getf 0 6), (89, mi_call 31 3 (some 3)), (92, mi_aload 0 1), (93, mi_aload 2 1), (94, mi_call 27 2 (some 3)), (97, mi_aload 2 1), (98, mi_getf 0 0), (101, mi_iload 3 1), (102, mi_cmp (fun x y => ¬ x = y) 109), (105, mi_push 1 1), (106, mi_goto 110), (109, mi_push 0 1), (111, mi_aload 0 1), (112, mi_iload 1 1), (113, mi_aload 0 1), (114, mi_iload 1 1), (115, mi_call 30 2 (some 3)), (118, mi_call 31 3 (some 3)), (121, mi_push 2 1)]
def rt_Yd_passSecondOf : List (Nat × Nat) := [(15, 1), (70, 1), (77, 1), (110, 1), (122, 1)]
/-- 26: CraneTurns$Yard.takeFirst(LCraneTurns$Crane;)V -/
def pg_Yd_takeFirst : List (Nat × mm_F) := [(0, mi_aload 1 1), (1, mi_getf 0 10), (4, mi_if (fun x => ¬ x = 0) 8), (8, mi_aload 1 1), (9, mi_getr 0 7 2), (12, mi_push 0 1), (13, mi_ald 7 8), (14, mi_istore 2 1), (15, mi_aload 0 1), (16, mi_getf 3 4), (19, mi_aload 0 1), (20, mi_getr 3 11 2), (23, mi_iload 2 1), (24, mi_aald 11 8 1 4), (25, mi_getf 1 2), (28, mi_cmp (fun x y => y ≤ x) 32), (32, mi_aload 1 1), (33, mi_iload 2 1), (34, mi_call 6 2 (some 0)), (37, mi_aload 1 1), (38, mi_iload 2 1), (39, mi_putf 0 4), (42, mi_aload 0 1), (43, mi_getr 3 11 2), (46, mi_iload 2 1), (47, mi_aald 11 8 1 4), (48, mi_push 2 1), (49, mi_putf 1 3), (52, mi_aload 1 1), (53, mi_aload 0 1), (54, mi_getr 3 11 2), (57, mi_iload 2 1), (58, mi_aald 11 8 1 4), (59, mi_getf 1 0), (62, mi_putf 0 6), (65, mi_aload 1 1), (66, mi_push 1 1), (67, mi_putf 0 5), (70, mi_aload 0 1), (71, mi_aload 1 1), (72, mi_call 27 2 (some 3))]
def rt_Yd_takeFirst : List (Nat × Nat) := [(7, 0), (31, 0), (75, 0)]
/-- 27: CraneTurns$Yard.handleIfThere(LCraneTurns$Crane;)V -/
def pg_Yd_handleIfThere : List (Nat × mm_F) := [(0, mi_aload 1 1), (1, mi_getf 0 0), (4, mi_aload 1 1), (5, mi_getf 0 6), (8, mi_cmp (fun x y => ¬ x = y) 36), (11, mi_aload 1 1), (12, mi_aload 1 1), (13, mi_getf 0 5), (16, mi_push 1 1), (17, mi_cmp (fun x y => ¬ x = y) 24), (20, mi_push 2 1), (21, mi_goto 25), (24, mi_push 4 1), (25, mi_putf 0 5), (28, mi_aload 1 1), (29, mi_aload 0 1), (30, mi_getf 3 3), (33, mi_putf 0 7)]
def rt_Yd_handleIfThere : List (Nat × Nat) := [(36, 0)]
/-- 28: CraneTurns$Yard.liftOn(LCraneTurns$Crane;)V -/
def pg_Yd_liftOn : List (Nat × mm_F) := [(0, mi_aload 1 1), (1, mi_dup), (2, mi_getf 0 7), (5, mi_push 1 1), (6, mi_bin (fun x y => x - y) 1), (7, mi_putf 0 7), (10, mi_aload 1 1), (11, mi_getf 0 7), (14, mi_if (fun x => ¬ x = 0) 43), (17, mi_aload 1 1), (18, mi_aload 0 1), (19, mi_getr 3 11 2), (22, mi_aload 1 1), (23, mi_getf 0 4), (26, mi_aald 11 8 1 4), (27, mi_getf 1 1), (30, mi_putf 0 6), (33, mi_aload 1 1), (34, mi_push 3 1), (35, mi_putf 0 5), (38, mi_aload 0 1), (39, mi_aload 1 1), (40, mi_call 27 2 (some 3))]
def rt_Yd_liftOn : List (Nat × Nat) := [(43, 0)]
/-- 29: CraneTurns$Yard.setOn(LCraneTurns$Crane;)V -/
def pg_Yd_setOn : List (Nat × mm_F) := [(0, mi_aload 1 1), (1, mi_dup), (2, mi_getf 0 7), (5, mi_push 1 1), (6, mi_bin (fun x y => x - y) 1), (7, mi_putf 0 7), (10, mi_aload 1 1), (11, mi_getf 0 7), (14, mi_if (fun x => ¬ x = 0) 68), (17, mi_aload 0 1), (18, mi_getr 3 11 2), (21, mi_aload 1 1), (22, mi_getf 0 4), (25, mi_aald 11 8 1 4), (26, mi_push 3 1), (27, mi_putf 1 3), (30, mi_aload 0 1), (31, mi_getr 3 11 2), (34, mi_aload 1 1), (35, mi_getf 0 4), (38, mi_aald 11 8 1 4), (39, mi_aload 0 1), (40, mi_getf 3 4), (43, mi_push 1 1), (44, mi_bin (fun x y => x + y) 1), (45, mi_putf 1 5), (48, mi_aload 0 1), (49, mi_dup), (50, mi_getf 3 7), (53, mi_push 1 1), (54, mi_bin (fun x y => x - y) 1), (55, mi_putf 3 7), (58, mi_aload 1 1), (59, mi_push (-1) 1), (60, mi_putf 0 4), (63, mi_aload 1 1), (64, mi_push 0 1), (65, mi_putf 0 5)]
def rt_Yd_setOn : List (Nat × Nat) := [(68, 0)]
/-- 30: CraneTurns$Yard.placeOutOfTheWay(I)I -/
def pg_Yd_placeOutOfTheWay : List (Nat × mm_F) := [(0, mi_aload 0 1), (1, mi_getr 3 10 1), (4, mi_iload 1 1), (5, mi_aald 10 3 0 2), (6, mi_astore 2 1), (7, mi_iload 1 1), (8, mi_if (fun x => x ≤ 0) 72), (11, mi_aload 0 1), (12, mi_getr 3 10 1), (15, mi_iload 1 1), (16, mi_push 1 1), (17, mi_bin (fun x y => x - y) 1), (18, mi_aald 10 3 0 2), (19, mi_call 4 1 (some 0)), (22, mi_if (fun x => x = 0) 72), (25, mi_aload 0 1), (26, mi_getr 3 10 1), (29, mi_iload 1 1), (30, mi_push 1 1), (31, mi_bin (fun x y => x - y) 1), (32, mi_aald 10 3 0 2), (33, mi_getf 0 6), (36, mi_aload 2 1), (37, mi_getf 0 0), (40, mi_aload 0 1), (41, mi_getf 3 1), (44, mi_bin (fun x y => x - y) 1), (45, mi_cmp (fun x y => x ≤ y) 72), (48, mi_aload 0 1), (49, mi_getr 3 10 1), (52, mi_iload 1 1), (53, mi_push 1 1), (54, mi_bin (fun x y => x - y) 1), (55, mi_aald 10 3 0 2), (56, mi_getf 0 6), (59, mi_aload 0 1), (60, mi_getf 3 1), (63, mi_bin (fun x y => x + y) 1), (64, mi_aload 2 1), (65, mi_getf 0 2), (68, mi_mm (fun x y => if y < x then y else x)), (72, mi_iload 1 1), (73, mi_push 1 1), (74, mi_bin (fun x y => x + y) 1), (75, mi_aload 0 1), (76, mi_getf 3 0), (79, mi_cmp (fun x y => y ≤ x) 143), (82, mi_aload 0 1), (83, mi_getr 3 10 1), (86, mi_iload 1 1), (87, mi_push 1 1), (88, mi_bin (fun x y => x + y) 1), (89, mi_aald 10 3 0 2), (90, mi_call 4 1 (some 0)), (93, mi_if (fun x => x = 0) 143), (96, mi_aload 0 1), (97, mi_getr 3 10 1), (100, mi_iload 1 1), (101, mi_push 1 1), (102, mi_bin (fun x y => x + y) 1), (103, mi_aald 10 3 0 2), (104, mi_getf 0 6), (107, mi_aload 2 1), (108, mi_getf 0 0), (111, mi_aload 0 1), (112, mi_getf 3 1), (115, mi_bin (fun x y => x + y) 1), (116, mi_cmp (fun x y => y ≤ x) 143), (119, mi_aload 0 1), (120, mi_getr 3 10 1), (123, mi_iload 1 1), (124, mi_push 1 1), (125, mi_bin (fun x y => x + y) 1), (126, mi_aald 10 3 0 2), (127, mi_getf 0 6), (130, mi_aload 0 1), (131, mi_getf 3 1), (134, mi_bin (fun x y => x - y) 1), (135, mi_aload 2 1), (136, mi_getf 0 1), (139, mi_mm (fun x y => if x < y then y else x)), (143, mi_aload 2 1), (144, mi_getf 0 0)]
def rt_Yd_placeOutOfTheWay : List (Nat × Nat) := [(71, 1), (142, 1), (147, 1)]
/-- 31: CraneTurns$Yard.moveToward(II)V -/
def pg_Yd_moveToward : List (Nat × mm_F) := [(0, mi_aload 0 1), (1, mi_getr 3 10 1), (4, mi_iload 1 1), (5, mi_aald 10 3 0 2), (6, mi_astore 3 1), (7, mi_iload 2 1), (8, mi_aload 3 1), (9, mi_getf 0 0), (12, mi_cmp (fun x y => x ≤ y) 43), (15, mi_aload 3 1), (16, mi_iload 2 1), (17, mi_aload 3 1), (18, mi_getf 0 0), (21, mi_aload 0 1), (22, mi_getf 3 2), (25, mi_bin (fun x y => x + y) 1), (26, mi_mm (fun x y => if y < x then y else x)), (29, mi_aload 0 1), (30, mi_iload 1 1), (31, mi_call 22 2 (some 3)), (34, mi_mm (fun x y => if y < x then y else x)), (37, mi_putf 0 0), (40, mi_goto 76), (43, mi_iload 2 1), (44, mi_aload 3 1), (45, mi_getf 0 0), (48, mi_cmp (fun x y => y ≤ x) 76), (51, mi_aload 3 1), (52, mi_iload 2 1), (53, mi_aload 3 1), (54, mi_getf 0 0), (57, mi_aload 0 1), (58, mi_getf 3 2), (61, mi_bin (fun x y => x - y) 1), (62, mi_mm (fun x y => if x < y then y else x)), (65, mi_aload 0 1), (66, mi_iload 1 1), (67, mi_call 21 2 (some 3)), (70, mi_mm (fun x y => if x < y then y else x)), (73, mi_putf 0 0)]
def rt_Yd_moveToward : List (Nat × Nat) := [(76, 0)]
/-- 32: CraneTurns$Yard.copyOf(LCraneTurns$Yard;)V -/
def pg_Yd_copyOf : List (Nat × mm_F) := [(0, mi_aload 0 1), (1, mi_aload 1 1), (2, mi_getf 3 0), (5, mi_putf 3 0), (8, mi_aload 0 1), (9, mi_aload 1 1), (10, mi_getf 3 1), (13, mi_putf 3 1), (16, mi_aload 0 1), (17, mi_aload 1 1), (18, mi_getf 3 2), (21, mi_putf 3 2), (24, mi_aload 0 1), (25, mi_aload 1 1), (26, mi_getf 3 3), (29, mi_putf 3 3), (32, mi_aload 0 1), (33, mi_aload 1 1), (34, mi_getf 3 4), (37, mi_putf 3 4), (40, mi_aload 0 1), (41, mi_aload 1 1), (42, mi_getf 3 5), (45, mi_putf 3 5), (48, mi_aload 0 1), (49, mi_aload 1 1), (50, mi_getf 3 6), (53, mi_putf 3 6), (56, mi_aload 0 1), (57, mi_aload 1 1), (58, mi_getf 3 7), (61, mi_putf 3 7), (64, mi_aload 0 1), (65, mi_aload 1 1), (66, mi_getf 3 8), (69, mi_putz 3 8), (72, mi_push 0 1), (73, mi_istore 2 1), (74, mi_iload 2 1), (75, mi_aload 0 1), (76, mi_getf 3 0), (79, mi_cmp (fun x y => y ≤ x) 103), (82, mi_aload 0 1), (83, mi_getr 3 10 1), (86, mi_iload 2 1), (87, mi_aald 10 3 0 2), (88, mi_aload 1 1), (89, mi_getr 3 10 1), (92, mi_iload 2 1), (93, mi_aald 10 3 0 2), (94, mi_call 7 2 (some 0)), (97, mi_iinc 2 1), (100, mi_goto 74), (103, mi_push 0 1), (104, mi_istore 2 1), (105, mi_iload 2 1), (106, mi_aload 0 1), (107, mi_getf 3 6), (110, mi_cmp (fun x y => y ≤ x) 134), (113, mi_aload 0 1), (114, mi_getr 3 11 2), (117, mi_iload 2 1), (118, mi_aald 11 8 1 4), (119, mi_aload 1 1), (120, mi_getr 3 11 2), (123, mi_iload 2 1), (124, mi_aald 11 8 1 4), (125, mi_call 8 2 (some 1)), (128, mi_iinc 2 1), (131, mi_goto 105)]
def rt_Yd_copyOf : List (Nat × Nat) := [(134, 0)]
/-- 33: CraneTurnsModel.thrown()I -/
def pg_Mo_thrown : List (Nat × mm_F) := [(0, mi_aload 0 1), (1, mi_getf 5 0)]
def rt_Mo_thrown : List (Nat × Nat) := [(4, 1)]
/-- 34: CraneTurnsModel.throwing(ZZZZ)Z -/
def pg_Mo_throwing : List (Nat × mm_F) := [(0, mi_aload 0 1), (1, mi_iload 1 1), (2, mi_if (fun x => x = 0) 9), (5, mi_push 1 1), (6, mi_goto 35), (9, mi_iload 2 1), (10, mi_if (fun x => x = 0) 17), (13, mi_push 2 1), (14, mi_goto 35), (17, mi_iload 3 1), (18, mi_if (fun x => x = 0) 25), (21, mi_push 3 1), (22, mi_goto 35), (25, mi_iload 4 2), (27, mi_if (fun x => x = 0) 34), (30, mi_push 4 1), (31, mi_goto 35), (34, mi_push 0 1), (35, mi_putf 5 0), (38, mi_aload 0 1), (39, mi_getf 5 0), (42, mi_if (fun x => x ≤ 0) 49), (45, mi_push 1 1), (46, mi_goto 50), (49, mi_push 0 1)]
def rt_Mo_throwing : List (Nat × Nat) := [(50, 2)]
/-- 35: CraneTurnsModel.in(III)Z -/
def pg_Mo_in : List (Nat × mm_F) := [(0, mi_iload 0 1), (1, mi_iload 1 1), (2, mi_cmp (fun x y => x < y) 14), (5, mi_iload 0 1), (6, mi_iload 2 1), (7, mi_cmp (fun x y => y < x) 14), (10, mi_push 1 1), (11, mi_goto 15), (14, mi_push 0 1)]
def rt_Mo_in : List (Nat × Nat) := [(15, 2)]
/-- 36: CraneTurnsModel.isCrane(I)Z -/
def pg_Mo_isCrane : List (Nat × mm_F) := [(0, mi_iload 1 1), (1, mi_push 0 1), (2, mi_aload 0 1), (3, mi_getf 5 1), (6, mi_push 1 1), (7, mi_bin (fun x y => x - y) 1), (8, mi_call 35 3 none)]
def rt_Mo_isCrane : List (Nat × Nat) := [(11, 2)]
/-- 37: CraneTurnsModel.isJob(I)Z -/
def pg_Mo_isJob : List (Nat × mm_F) := [(0, mi_iload 1 1), (1, mi_push 0 1), (2, mi_aload 0 1), (3, mi_getf 5 5), (6, mi_push 1 1), (7, mi_bin (fun x y => x - y) 1), (8, mi_call 35 3 none)]
def rt_Mo_isJob : List (Nat × Nat) := [(11, 2)]
/-- 38: CraneTurnsModel.ofCrane(II)I -/
def pg_Mo_ofCrane : List (Nat × mm_F) := [(0, mi_aload 0 1), (1, mi_getr 5 13 3), (4, mi_push 10 2), (6, mi_push 10 2), (8, mi_iload 1 1), (9, mi_bin (fun x y => x * y) 1), (10, mi_bin (fun x y => x + y) 1), (11, mi_iload 2 1), (12, mi_bin (fun x y => x + y) 1), (13, mi_ald 13 110)]
def rt_Mo_ofCrane : List (Nat × Nat) := [(14, 1)]
/-- 39: CraneTurnsModel.setCrane(III)V -/
def pg_Mo_setCrane : List (Nat × mm_F) := [(0, mi_aload 0 1), (1, mi_getr 5 13 3), (4, mi_push 10 2), (6, mi_push 10 2), (8, mi_iload 1 1), (9, mi_bin (fun x y => x * y) 1), (10, mi_bin (fun x y => x + y) 1), (11, mi_iload 2 1), (12, mi_bin (fun x y => x + y) 1), (13, mi_iload 3 1), (14, mi_ast 13 110)]
def rt_Mo_setCrane : List (Nat × Nat) := [(15, 0)]
/-- 40: CraneTurnsModel.ofJob(II)I -/
def pg_Mo_ofJob : List (Nat × mm_F) := [(0, mi_aload 0 1), (1, mi_getr 5 13 3), (4, mi_push 50 2), (6, mi_push 7 2), (8, mi_iload 1 1), (9, mi_bin (fun x y => x * y) 1), (10, mi_bin (fun x y => x + y) 1), (11, mi_iload 2 1), (12, mi_bin (fun x y => x + y) 1), (13, mi_ald 13 110)]
def rt_Mo_ofJob : List (Nat × Nat) := [(14, 1)]
/-- 41: CraneTurnsModel.setJob(III)V -/
def pg_Mo_setJob : List (Nat × mm_F) := [(0, mi_aload 0 1), (1, mi_getr 5 13 3), (4, mi_push 50 2), (6, mi_push 7 2), (8, mi_iload 1 1), (9, mi_bin (fun x y => x * y) 1), (10, mi_bin (fun x y => x + y) 1), (11, mi_iload 2 1), (12, mi_bin (fun x y => x + y) 1), (13, mi_iload 3 1), (14, mi_ast 13 110)]
def rt_Mo_setJob : List (Nat × Nat) := [(15, 0)]
/-- 42: CraneTurnsModel.track(IIII)V -/
def pg_Mo_track : List (Nat × mm_F) := [(0, mi_iload 1 1), (1, mi_push 1 1), (2, mi_push 3 1), (3, mi_call 35 3 none), (6, mi_if (fun x => x = 0) 44), (9, mi_iload 2 1), (10, mi_push 1 1), (11, mi_push 30 2), (13, mi_call 35 3 none), (16, mi_if (fun x => x = 0) 44), (19, mi_iload 3 1), (20, mi_push 1 1), (21, mi_push 20 2), (23, mi_call 35 3 none), (26, mi_if (fun x => x = 0) 44), (29, mi_iload 4 2), (31, mi_push 1 1), (32, mi_push 30 2), (34, mi_call 35 3 none), (37, mi_if (fun x => x = 0) 44), (40, mi_push 1 1), (41, mi_goto 45), (44, mi_push 0 1), (45, mi_istore 5 2), (47, mi_aload 0 1), (48, mi_aload 0 1), (49, mi_getf 5 1), (52, mi_if (fun x => x ≤ 0) 59), (55, mi_push 1 1), (56, mi_goto 60), (59, mi_push 0 1), (60, mi_iload 5 2), (62, mi_if (fun x => ¬ x = 0) 69), (65, mi_push 1 1), (66, mi_goto 70), (69, mi_push 0 1), (70, mi_push 0 1), (71, mi_push 0 1), (72, mi_call 34 5 (some 5)), (75, mi_if (fun x => x = 0) 79), (79, mi_aload 0 1), (80, mi_iload 1 1), (81, mi_putf 5 1), (84, mi_aload 0 1), (85, mi_iload 2 1), (86, mi_putf 5 2), (89, mi_aload 0 1), (90, mi_iload 3 1), (91, mi_putf 5 3), (94, mi_aload 0 1), (95, mi_iload 4 2), (97, mi_putf 5 4), (100, mi_push 0 1), (101, mi_istore 6 2), (103, mi_iload 6 2), (105, mi_iload 1 1), (106, mi_cmp (fun x y => y ≤ x) 144), (109, mi_aload 0 1), (110, mi_iload 6 2), (112, mi_push 0 1), (113, mi_iload 6 2), (115, mi_iload 2 1), (116, mi_bin (fun x y => x * y) 1), (117, mi_call 39 4 (some 5)), (120, mi_aload 0 1), (121, mi_iload 6 2), (123, mi_push 2 1), (124, mi_push (-1) 1), (125, mi_call 39 4 (some 5)), (128, mi_aload 0 1), (129, mi_getr 5 12 2), (132, mi_iload 6 2), (134, mi_push 200 3), (137, mi_ast 12 3), (138, mi_iinc 6 1), (141, mi_goto 103)]
def rt_Mo_track : List (Nat × Nat) := [(78, 0), (144, 0)]
/-- 43: CraneTurnsModel.crane(IIII)V -/
def pg_Mo_crane : List (Nat × mm_F) := [(0, mi_aload 0 1), (1, mi_iload 1 1), (2, mi_call 36 2 (some 5)), (5, mi_if (fun x => ¬ x = 0) 12), (8, mi_push 1 1), (9, mi_goto 13), (12, mi_push 0 1), (13, mi_istore 5 2), (15, mi_iload 3 1), (16, mi_push 0 1), (17, mi_push 200 3), (20, mi_call 35 3 none), (23, mi_if (fun x => x = 0) 48), (26, mi_iload 4 2), (28, mi_push 0 1), (29, mi_push 200 3), (32, mi_call 35 3 none), (35, mi_if (fun x => x = 0) 48), (38, mi_iload 2 1), (39, mi_iload 3 1), (40, mi_iload 4 2), (42, mi_call 35 3 none), (45, mi_if (fun x => ¬ x = 0) 52), (48, mi_push 1 1), (49, mi_goto 53), (52, mi_push 0 1), (53, mi_istore 6 2), (55, mi_iload 5 2), (57, mi_if (fun x => ¬ x = 0) 112), (60, mi_iload 1 1), (61, mi_if (fun x => x ≤ 0) 81), (64, mi_iload 2 1), (65, mi_aload 0 1), (66, mi_iload 1 1), (67, mi_push 1 1), (68, mi_bin (fun x y => x - y) 1), (69, mi_push 0 1), (70, mi_call 38 3 (some 5)), (73, mi_bin (fun x y => x - y) 1), (74, mi_aload 0 1), (75, mi_getf 5 2), (78, mi_cmp (fun x y => x < y) 108), (81, mi_iload 1 1), (82, mi_push 1 1), (83, mi_bin (fun x y => x + y) 1), (84, mi_aload 0 1), (85, mi_getf 5 1), (88, mi_cmp (fun x y => y ≤ x) 112), (91, mi_aload 0 1), (92, mi_iload 1 1), (93, mi_push 1 1), (94, mi_bin (fun x y => x + y) 1), (95, mi_push 0 1), (96, mi_call 38 3 (some 5)), (99, mi_iload 2 1), (100, mi_bin (fun x y => x - y) 1), (101, mi_aload 0 1), (102, mi_getf 5 2), (105, mi_cmp (fun x y => y ≤ x) 112), (108, mi_push 1 1), (109, mi_goto 113), (112, mi_push 0 1), (113, mi_istore 7 2), (115, mi_aload 0 1), (116, mi_iload 5 2), (118, mi_aload 0 1), (119, mi_getr 5 13 3), (122, mi_push 0 1), (123, mi_ald 13 110), (124, mi_if (fun x => 0 < x) 136), (127, mi_aload 0 1), (128, mi_getr 5 13 3), (131, mi_push 2 1), (132, mi_ald 13 110), (133, mi_if (fun x => x ≤ 0) 140), (136, mi_push 1 1), (137, mi_goto 141), (140, mi_push 0 1), (141, mi_iload 6 2), (143, mi_iload 7 2), (145, mi_call 34 5 (some 5)), (148, mi_if (fun x => x = 0) 152), (152, mi_aload 0 1), (153, mi_iload 1 1), (154, mi_push 0 1), (155, mi_iload 2 1), (156, mi_call 39 4 (some 5)), (159, mi_aload 0 1), (160, mi_getr 5 12 1), (163, mi_iload 1 1), (164, mi_iload 3 1), (165, mi_ast 12 3), (166, mi_aload 0 1), (167, mi_getr 5 12 2), (170, mi_iload 1 1), (171, mi_iload 4 2), (173, mi_ast 12 3)]
def rt_Mo_crane : List (Nat × Nat) := [(151, 0), (174, 0)]
/-- 44: CraneTurnsModel.job(III)I -/
def pg_Mo_job : List (Nat × mm_F) := [(0, mi_iload 1 1), (1, mi_push 0 1), (2, mi_push 200 3), (5, mi_call 35 3 none), (8, mi_if (fun x => x = 0) 37), (11, mi_iload 2 1), (12, mi_push 0 1), (13, mi_push 200 3), (16, mi_call 35 3 none), (19, mi_if (fun x => x = 0) 37), (22, mi_iload 3 1), (23, mi_push 0 1), (24, mi_push 5000 3), (27, mi_call 35 3 none), (30, mi_if (fun x => x = 0) 37), (33, mi_push 1 1), (34, mi_goto 38), (37, mi_push 0 1), (38, mi_istore 4 2), (40, mi_aload 0 1), (41, mi_aload 0 1), (42, mi_getf 5 1), (45, mi_if (fun x => ¬ x = 0) 52), (48, mi_push 1 1), (49, mi_goto 53), (52, mi_push 0 1), (53, mi_iload 4 2), (55, mi_if (fun x => ¬ x = 0) 62), (58, mi_push 1 1), (59, mi_goto 63), (62, mi_push 0 1), (63, mi_aload 0 1), (64, mi_getf 5 5), (67, mi_push 8 2), (69, mi_cmp (fun x y => ¬ x = y) 76), (72, mi_push 1 1), (73, mi_goto 77), (76, mi_push 0 1), (77, mi_push 0 1), (78, mi_call 34 5 (some 5)), (81, mi_if (fun x => x = 0) 86), (84, mi_push 0 1), (86, mi_aload 0 1), (87, mi_aload 0 1), (88, mi_getf 5 5), (91, mi_push 0 1), (92, mi_iload 1 1), (93, mi_call 41 4 (some 5)), (96, mi_aload 0 1), (97, mi_aload 0 1), (98, mi_getf 5 5), (101, mi_push 1 1), (102, mi_iload 2 1), (103, mi_call 41 4 (some 5)), (106, mi_aload 0 1), (107, mi_aload 0 1), (108, mi_getf 5 5), (111, mi_push 2 1), (112, mi_iload 3 1), (113, mi_call 41 4 (some 5)), (116, mi_aload 0 1), (117, mi_aload 0 1), (118, mi_getf 5 5), (121, mi_push 3 1), (122, mi_push 0 1), (123, mi_call 41 4 (some 5)), (126, mi_aload 0 1), (127, mi_aload 0 1), (128, mi_getf 5 5), (131, mi_push 4 1), (132, mi_push (-1) 1), (133, mi_call 41 4 (some 5)), (136, mi_aload 0 1), (137, mi_aload 0 1), (138, mi_getf 5 5), (141, mi_push 5 1), (142, mi_push (-1) 1), (143, mi_call 41 4 (some 5)), (146, mi_aload 0 1), (147, mi_dup), (148, mi_getf 5 5), (151, mi_push 1 1), (152, mi_bin (fun x y => x + y) 1), (153, mi_putf 5 5), (156, mi_aload 0 1), (157, mi_getf 5 5), (160, mi_push 1 1), (161, mi_bin (fun x y => x - y) 1)]
def rt_Mo_job : List (Nat × Nat) := [(85, 1), (162, 1)]
/-- 45: CraneTurnsModel.reaches(II)Z -/
def pg_Mo_reaches : List (Nat × mm_F) := [(0, mi_aload 0 1), (1, mi_iload 2 1), (2, mi_push 0 1), (3, mi_call 40 3 (some 5)), (6, mi_aload 0 1), (7, mi_getr 5 12 1), (10, mi_iload 1 1), (11, mi_ald 12 3), (12, mi_aload 0 1), (13, mi_getr 5 12 2), (16, mi_iload 1 1), (17, mi_ald 12 3), (18, mi_call 35 3 none), (21, mi_if (fun x => x = 0) 52), (24, mi_aload 0 1), (25, mi_iload 2 1), (26, mi_push 1 1), (27, mi_call 40 3 (some 5)), (30, mi_aload 0 1), (31, mi_getr 5 12 1), (34, mi_iload 1 1), (35, mi_ald 12 3), (36, mi_aload 0 1), (37, mi_getr 5 12 2), (40, mi_iload 1 1), (41, mi_ald 12 3), (42, mi_call 35 3 none), (45, mi_if (fun x => x = 0) 52), (48, mi_push 1 1), (49, mi_goto 53), (52, mi_push 0 1)]
def rt_Mo_reaches : List (Nat × Nat) := [(53, 2)]
/-- 46: CraneTurnsModel.giveTo(II)V -/
def pg_Mo_giveTo : List (Nat × mm_F) := [(0, mi_aload 0 1), (1, mi_iload 1 1), (2, mi_push 3 1), (3, mi_push 1 1), (4, mi_call 41 4 (some 5)), (7, mi_aload 0 1), (8, mi_iload 1 1), (9, mi_push 4 1), (10, mi_iload 2 1), (11, mi_call 41 4 (some 5)), (14, mi_aload 0 1), (15, mi_iload 1 1), (16, mi_push 6 2), (18, mi_aload 0 1), (19, mi_getr 5 13 3), (22, mi_push 2 1), (23, mi_ald 13 110), (24, mi_call 41 4 (some 5)), (27, mi_aload 0 1), (28, mi_getr 5 13 3), (31, mi_push 2 1), (32, mi_dup2), (33, mi_ald 13 110), (34, mi_push 1 1), (35, mi_bin (fun x y => x + y) 1), (36, mi_ast 13 110)]
def rt_Mo_giveTo : List (Nat × Nat) := [(37, 0)]
/-- 47: CraneTurnsModel.give(II)V -/
def pg_Mo_give : List (Nat × mm_F) := [(0, mi_aload 0 1), (1, mi_iload 1 1), (2, mi_call 37 2 (some 5)), (5, mi_if (fun x => x = 0) 16), (8, mi_aload 0 1), (9, mi_iload 2 1), (10, mi_call 36 2 (some 5)), (13, mi_if (fun x => ¬ x = 0) 20), (16, mi_push 1 1), (17, mi_goto 21), (20, mi_push 0 1), (21, mi_istore 3 1), (22, mi_aload 0 1), (23, mi_iload 3 1), (24, mi_iload 3 1), (25, mi_if (fun x => ¬ x = 0) 41), (28, mi_aload 0 1), (29, mi_iload 1 1), (30, mi_push 3 1), (31, mi_call 40 3 (some 5)), (34, mi_if (fun x => x ≤ 0) 41), (37, mi_push 1 1), (38, mi_goto 42), (41, mi_push 0 1), (42, mi_iload 3 1), (43, mi_if (fun x => ¬ x = 0) 59), (46, mi_aload 0 1), (47, mi_iload 2 1), (48, mi_iload 1 1), (49, mi_call 45 3 (some 5)), (52, mi_if (fun x => ¬ x = 0) 59), (55, mi_push 1 1), (56, mi_goto 60), (59, mi_push 0 1), (60, mi_push 0 1), (61, mi_call 34 5 (some 5)), (64, mi_if (fun x => x = 0) 68), (68, mi_aload 0 1), (69, mi_iload 1 1), (70, mi_iload 2 1), (71, mi_call 46 3 (some 5))]
def rt_Mo_give : List (Nat × Nat) := [(67, 0), (74, 0)]
/-- 48: CraneTurnsModel.take(I)V -/
def pg_Mo_take : List (Nat × mm_F) := [(0, mi_aload 0 1), (1, mi_iload 1 1), (2, mi_call 37 2 (some 5)), (5, mi_if (fun x => ¬ x = 0) 12), (8, mi_push 1 1), (9, mi_goto 13), (12, mi_push 0 1), (13, mi_istore 2 1), (14, mi_aload 0 1), (15, mi_iload 2 1), (16, mi_iload 2 1), (17, mi_if (fun x => ¬ x = 0) 34), (20, mi_aload 0 1), (21, mi_iload 1 1), (22, mi_push 3 1), (23, mi_call 40 3 (some 5)), (26, mi_push 1 1), (27, mi_cmp (fun x y => x = y) 34), (30, mi_push 1 1), (31, mi_goto 35), (34, mi_push 0 1), (35, mi_push 0 1), (36, mi_push 0 1), (37, mi_call 34 5 (some 5)), (40, mi_if (fun x => x = 0) 44), (44, mi_aload 0 1), (45, mi_iload 1 1), (46, mi_push 3 1), (47, mi_push 0 1), (48, mi_call 41 4 (some 5)), (51, mi_aload 0 1), (52, mi_iload 1 1), (53, mi_push 4 1), (54, mi_push (-1) 1), (55, mi_call 41 4 (some 5))]
def rt_Mo_take : List (Nat × Nat) := [(43, 0), (58, 0)]
/-- 49: CraneTurnsModel.broken(IZ)V -/
def pg_Mo_broken : List (Nat × mm_F) := [(0, mi_aload 0 1), (1, mi_iload 1 1), (2, mi_call 36 2 (some 5)), (5, mi_if (fun x => ¬ x = 0) 12), (8, mi_push 1 1), (9, mi_goto 13), (12, mi_push 0 1), (13, mi_istore 3 1), (14, mi_aload 0 1), (15, mi_iload 3 1), (16, mi_iload 3 1), (17, mi_if (fun x => ¬ x = 0) 43), (20, mi_aload 0 1), (21, mi_iload 1 1), (22, mi_push 8 2), (24, mi_call 38 3 (some 5)), (27, mi_iload 2 1), (28, mi_if (fun x => x = 0) 35), (31, mi_push 1 1), (32, mi_goto 36), (35, mi_push 0 1), (36, mi_cmp (fun x y => ¬ x = y) 43), (39, mi_push 1 1), (40, mi_goto 44), (43, mi_push 0 1), (44, mi_push 0 1), (45, mi_push 0 1), (46, mi_call 34 5 (some 5)), (49, mi_if (fun x => x = 0) 53), (53, mi_aload 0 1), (54, mi_iload 1 1), (55, mi_push 8 2), (57, mi_iload 2 1), (58, mi_if (fun x => x = 0) 65), (61, mi_push 1 1), (62, mi_goto 66), (65, mi_push 0 1), (66, mi_call 39 4 (some 5))]
def rt_Mo_broken : List (Nat × Nat) := [(52, 0), (69, 0)]
/-- 50: CraneTurnsModel.firstOf(I)I -/
def pg_Mo_firstOf : List (Nat × mm_F) := [(0, mi_push (-1) 1), (1, mi_istore 2 1), (2, mi_push 0 1), (3, mi_istore 3 1), (4, mi_iload 3 1), (5, mi_aload 0 1), (6, mi_getf 5 5), (9, mi_cmp (fun x y => y ≤ x) 73), (12, mi_aload 0 1), (13, mi_iload 3 1), (14, mi_push 3 1), (15, mi_call 40 3 (some 5)), (18, mi_push 1 1), (19, mi_cmp (fun x y => ¬ x = y) 36), (22, mi_aload 0 1), (23, mi_iload 3 1), (24, mi_push 4 1), (25, mi_call 40 3 (some 5)), (28, mi_iload 1 1), (29, mi_cmp (fun x y => ¬ x = y) 36), (32, mi_push 1 1), (33, mi_goto 37), (36, mi_push 0 1), (37, mi_istore 4 2), (39, mi_iload 4 2), (41, mi_if (fun x => x = 0) 67), (44, mi_iload 2 1), (45, mi_if (fun x => x < 0) 65), (48, mi_aload 0 1), (49, mi_iload 3 1), (50, mi_push 6 2), (52, mi_call 40 3 (some 5)), (55, mi_aload 0 1), (56, mi_iload 2 1), (57, mi_push 6 2), (59, mi_call 40 3 (some 5)), (62, mi_cmp (fun x y => y ≤ x) 67), (65, mi_iload 3 1), (66, mi_istore 2 1), (67, mi_iinc 3 1), (70, mi_goto 4), (73, mi_iload 2 1)]
def rt_Mo_firstOf : List (Nat × Nat) := [(74, 1)]
/-- 51: CraneTurnsModel.hasGoal(I)Z -/
def pg_Mo_hasGoal : List (Nat × mm_F) := [(0, mi_aload 0 1), (1, mi_iload 1 1), (2, mi_push 1 1), (3, mi_call 38 3 (some 5)), (6, mi_push 1 1), (7, mi_cmp (fun x y => x = y) 20), (10, mi_aload 0 1), (11, mi_iload 1 1), (12, mi_push 1 1), (13, mi_call 38 3 (some 5)), (16, mi_push 3 1), (17, mi_cmp (fun x y => ¬ x = y) 24), (20, mi_push 1 1), (21, mi_goto 25), (24, mi_push 0 1)]
def rt_Mo_hasGoal : List (Nat × Nat) := [(25, 2)]
/-- 52: CraneTurnsModel.goalOf(I)I -/
def pg_Mo_goalOf : List (Nat × mm_F) := [(0, mi_aload 0 1), (1, mi_aload 0 1), (2, mi_iload 1 1), (3, mi_push 2 1), (4, mi_call 38 3 (some 5)), (7, mi_aload 0 1), (8, mi_iload 1 1), (9, mi_push 1 1), (10, mi_call 38 3 (some 5)), (13, mi_push 1 1), (14, mi_cmp (fun x y => ¬ x = y) 21), (17, mi_push 0 1), (18, mi_goto 22), (21, mi_push 1 1), (22, mi_call 40 3 (some 5))]
def rt_Mo_goalOf : List (Nat × Nat) := [(25, 1)]
/-- 53: CraneTurnsModel.begins(II)V -/
def pg_Mo_begins : List (Nat × mm_F) := [(0, mi_aload 0 1), (1, mi_iload 1 1), (2, mi_push 1 1), (3, mi_iload 2 1), (4, mi_call 39 4 (some 5)), (7, mi_aload 0 1), (8, mi_iload 1 1), (9, mi_push 3 1), (10, mi_aload 0 1), (11, mi_getf 5 4), (14, mi_call 39 4 (some 5))]
def rt_Mo_begins : List (Nat × Nat) := [(17, 0)]
/-- 54: CraneTurnsModel.takesJob(I)V -/
def pg_Mo_takesJob : List (Nat × mm_F) := [(0, mi_aload 0 1), (1, mi_iload 1 1), (2, mi_call 50 2 (some 5)), (5, mi_istore 2 1), (6, mi_iload 2 1), (7, mi_if (fun x => x < 0) 25), (10, mi_aload 0 1), (11, mi_getr 5 13 3), (14, mi_push 0 1), (15, mi_ald 13 110), (16, mi_aload 0 1), (17, mi_iload 2 1), (18, mi_push 2 1), (19, mi_call 40 3 (some 5)), (22, mi_cmp (fun x y => y ≤ x) 26), (26, mi_aload 0 1), (27, mi_iload 2 1), (28, mi_push 3 1), (29, mi_push 2 1), (30, mi_call 41 4 (some 5)), (33, mi_aload 0 1), (34, mi_iload 1 1), (35, mi_push 2 1), (36, mi_iload 2 1), (37, mi_call 39 4 (some 5)), (40, mi_aload 0 1), (41, mi_iload 1 1), (42, mi_push 0 1), (43, mi_call 38 3 (some 5)), (46, mi_aload 0 1), (47, mi_iload 2 1), (48, mi_push 0 1), (49, mi_call 40 3 (some 5)), (52, mi_cmp (fun x y => ¬ x = y) 64), (55, mi_aload 0 1), (56, mi_iload 1 1), (57, mi_push 2 1), (58, mi_call 53 3 (some 5)), (61, mi_goto 71), (64, mi_aload 0 1), (65, mi_iload 1 1), (66, mi_push 1 1), (67, mi_push 1 1), (68, mi_call 39 4 (some 5))]
def rt_Mo_takesJob : List (Nat × Nat) := [(25, 0), (71, 0)]
/-- 55: CraneTurnsModel.goes(II)Z -/
def pg_Mo_goes : List (Nat × mm_F) := [(0, mi_aload 0 1), (1, mi_iload 1 1), (2, mi_push 0 1), (3, mi_call 38 3 (some 5)), (6, mi_istore 3 1), (7, mi_iload 3 1), (8, mi_istore 4 2), (10, mi_iload 2 1), (11, mi_iload 3 1), (12, mi_cmp (fun x y => x ≤ y) 97), (15, mi_iload 2 1), (16, mi_iload 3 1), (17, mi_aload 0 1), (18, mi_getf 5 3), (21, mi_bin (fun x y => x + y) 1), (22, mi_cmp (fun x y => y ≤ x) 29), (25, mi_iload 2 1), (26, mi_goto 35), (29, mi_iload 3 1), (30, mi_aload 0 1), (31, mi_getf 5 3), (34, mi_bin (fun x y => x + y) 1), (35, mi_istore 4 2), (37, mi_iload 1 1), (38, mi_push 1 1), (39, mi_bin (fun x y => x + y) 1), (40, mi_aload 0 1), (41, mi_getf 5 1), (44, mi_cmp (fun x y => y ≤ x) 80), (47, mi_iload 4 2), (49, mi_aload 0 1), (50, mi_iload 1 1), (51, mi_push 1 1), (52, mi_bin (fun x y => x + y) 1), (53, mi_push 0 1), (54, mi_call 38 3 (some 5)), (57, mi_aload 0 1), (58, mi_getf 5 2), (61, mi_bin (fun x y => x - y) 1), (62, mi_cmp (fun x y => x ≤ y) 80), (65, mi_aload 0 1), (66, mi_iload 1 1), (67, mi_push 1 1), (68, mi_bin (fun x y => x + y) 1), (69, mi_push 0 1), (70, mi_call 38 3 (some 5)), (73, mi_aload 0 1), (74, mi_getf 5 2), (77, mi_bin (fun x y => x - y) 1), (78, mi_istore 4 2), (80, mi_iload 4 2), (82, mi_iload 3 1), (83, mi_cmp (fun x y => y ≤ x) 90), (86, mi_iload 3 1), (87, mi_goto 92), (90, mi_iload 4 2), (92, mi_istore 4 2), (94, mi_goto 175), (97, mi_iload 2 1), (98, mi_iload 3 1), (99, mi_cmp (fun x y => y ≤ x) 175), (102, mi_iload 2 1), (103, mi_iload 3 1), (104, mi_aload 0 1), (105, mi_getf 5 3), (108, mi_bin (fun x y => x - y) 1), (109, mi_cmp (fun x y => x ≤ y) 116), (112, mi_iload 2 1), (113, mi_goto 122), (116, mi_iload 3 1), (117, mi_aload 0 1), (118, mi_getf 5 3), (121, mi_bin (fun x y => x - y) 1), (122, mi_istore 4 2), (124, mi_iload 1 1), (125, mi_if (fun x => x ≤ 0) 161), (128, mi_iload 4 2), (130, mi_aload 0 1), (131, mi_iload 1 1), (132, mi_push 1 1), (133, mi_bin (fun x y => x - y) 1), (134, mi_push 0 1), (135, mi_call 38 3 (some 5)), (138, mi_aload 0 1), (139, mi_getf 5 2), (142, mi_bin (fun x y => x + y) 1), (143, mi_cmp (fun x y => y ≤ x) 161), (146, mi_aload 0 1), (147, mi_iload 1 1), (148, mi_push 1 1), (149, mi_bin (fun x y => x - y) 1), (150, mi_push 0 1), (151, mi_call 38 3 (some 5)), (154, mi_aload 0 1), (155, mi_getf 5 2), (158, mi_bin (fun x y => x + y) 1), (159, mi_istore 4 2), (161, mi_iload 4 2), (163, mi_iload 3 1), (164, mi_cmp (fun x y => x ≤ y) 171), (167, mi_iload 3 1), (168, mi_goto 173), (171, mi_iload 4 2), (173, mi_istore 4 2), (175, mi_aload 0 1), (176, mi_iload 1 1), (177, mi_push 0 1), (178, mi_iload 4 2), (180, mi_call 39 4 (some 5)), (183, mi_iload 4 2), (185, mi_iload 3 1), (186, mi_cmp (fun x y => x = y) 193), (189, mi_push 1 1), (190, mi_goto 194), (193, mi_push 0 1)]
def rt_Mo_goes : List (Nat × Nat) := [(194, 2)]
/-- 56: CraneTurnsModel.lessToGo(I)V -/
def pg_Mo_lessToGo : List (Nat × mm_F) := [(0, mi_aload 0 1), (1, mi_iload 1 1), (2, mi_push 2 1), (3, mi_call 38 3 (some 5)), (6, mi_istore 2 1), (7, mi_aload 0 1), (8, mi_iload 1 1), (9, mi_push 3 1), (10, mi_aload 0 1), (11, mi_iload 1 1), (12, mi_push 3 1), (13, mi_call 38 3 (some 5)), (16, mi_push 1 1), (17, mi_bin (fun x y => x - y) 1), (18, mi_call 39 4 (some 5)), (21, mi_aload 0 1), (22, mi_iload 1 1), (23, mi_push 3 1), (24, mi_call 38 3 (some 5)), (27, mi_if (fun x => x ≤ 0) 31), (31, mi_aload 0 1), (32, mi_iload 1 1), (33, mi_push 1 1), (34, mi_call 38 3 (some 5)), (37, mi_push 2 1), (38, mi_cmp (fun x y => ¬ x = y) 73), (41, mi_aload 0 1), (42, mi_iload 1 1), (43, mi_push 0 1), (44, mi_call 38 3 (some 5)), (47, mi_aload 0 1), (48, mi_iload 2 1), (49, mi_push 1 1), (50, mi_call 40 3 (some 5)), (53, mi_cmp (fun x y => ¬ x = y) 65), (56, mi_aload 0 1), (57, mi_iload 1 1), (58, mi_push 4 1), (59, mi_call 53 3 (some 5)), (62, mi_goto 72), (65, mi_aload 0 1), (66, mi_iload 1 1), (67, mi_push 1 1), (68, mi_push 3 1), (69, mi_call 39 4 (some 5)), (73, mi_aload 0 1), (74, mi_iload 2 1), (75, mi_push 3 1), (76, mi_push 3 1), (77, mi_call 41 4 (some 5)), (80, mi_aload 0 1), (81, mi_iload 2 1), (82, mi_push 5 1), (83, mi_aload 0 1), (84, mi_getr 5 13 3), (87, mi_push 0 1), (88, mi_ald 13 110), (89, mi_push 1 1), (90, mi_bin (fun x y => x + y) 1), (91, mi_call 41 4 (some 5)), (94, mi_aload 0 1), (95, mi_iload 1 1), (96, mi_push 2 1), (97, mi_push (-1) 1), (98, mi_call 39 4 (some 5)), (101, mi_aload 0 1), (102, mi_iload 1 1), (103, mi_push 1 1), (104, mi_push 0 1), (105, mi_call 39 4 (some 5))]
def rt_Mo_lessToGo : List (Nat × Nat) := [(30, 0), (72, 0), (108, 0)]
/-- 57: CraneTurnsModel.givesWay(I)V -/
def pg_Mo_givesWay : List (Nat × mm_F) := [(0, mi_aload 0 1), (1, mi_iload 1 1), (2, mi_push 0 1), (3, mi_call 38 3 (some 5)), (6, mi_istore 2 1), (7, mi_aload 0 1), (8, mi_iload 1 1), (9, mi_push 6 2), (11, mi_aload 0 1), (12, mi_iload 1 1), (13, mi_push 6 2), (15, mi_call 38 3 (some 5)), (18, mi_push 1 1), (19, mi_bin (fun x y => x + y) 1), (20, mi_call 39 4 (some 5)), (23, mi_iload 1 1), (24, mi_if (fun x => x ≤ 0) 102), (27, mi_aload 0 1), (28, mi_iload 1 1), (29, mi_push 1 1), (30, mi_bin (fun x y => x - y) 1), (31, mi_call 51 2 (some 5)), (34, mi_if (fun x => x = 0) 102), (37, mi_aload 0 1), (38, mi_iload 1 1), (39, mi_push 1 1), (40, mi_bin (fun x y => x - y) 1), (41, mi_call 52 2 (some 5)), (44, mi_iload 2 1), (45, mi_aload 0 1), (46, mi_getf 5 2), (49, mi_bin (fun x y => x - y) 1), (50, mi_cmp (fun x y => x ≤ y) 102), (53, mi_aload 0 1), (54, mi_iload 1 1), (55, mi_push 1 1), (56, mi_bin (fun x y => x - y) 1), (57, mi_call 52 2 (some 5)), (60, mi_aload 0 1), (61, mi_getf 5 2), (64, mi_bin (fun x y => x + y) 1), (65, mi_istore 3 1), (66, mi_iload 3 1), (67, mi_aload 0 1), (68, mi_getr 5 12 2), (71, mi_iload 1 1), (72, mi_ald 12 3), (73, mi_cmp (fun x y => x ≤ y) 85), (76, mi_aload 0 1), (77, mi_getr 5 12 2), (80, mi_iload 1 1), (81, mi_ald 12 3), (82, mi_goto 86), (85, mi_iload 3 1), (86, mi_istore 3 1), (87, mi_iload 3 1), (88, mi_iload 2 1), (89, mi_cmp (fun x y => x ≤ y) 99), (92, mi_aload 0 1), (93, mi_iload 1 1), (94, mi_iload 3 1), (95, mi_call 55 3 (some 5)), (98, mi_pop), (99, mi_goto 184), (102, mi_iload 1 1), (103, mi_push 1 1), (104, mi_bin (fun x y => x + y) 1), (105, mi_aload 0 1), (106, mi_getf 5 1), (109, mi_cmp (fun x y => y ≤ x) 184), (112, mi_aload 0 1), (113, mi_iload 1 1), (114, mi_push 1 1), (115, mi_bin (fun x y => x + y) 1), (116, mi_call 51 2 (some 5)), (119, mi_if (fun x => x = 0) 184), (122, mi_aload 0 1), (123, mi_iload 1 1), (124, mi_push 1 1), (125, mi_bin (fun x y => x + y) 1), (126, mi_call 52 2 (some 5)), (129, mi_iload 2 1), (130, mi_aload 0 1), (131, mi_getf 5 2), (134, mi_bin (fun x y => x + y) 1), (135, mi_cmp (fun x y => y ≤ x) 184), (138, mi_aload 0 1), (139, mi_iload 1 1), (140, mi_push 1 1), (141, mi_bin (fun x y => x + y) 1), (142, mi_call 52 2 (some 5)), (145, mi_aload 0 1), (146, mi_getf 5 2), (149, mi_bin (fun x y => x - y) 1), (150, mi_istore 3 1), (151, mi_iload 3 1), (152, mi_aload 0 1), (153, mi_getr 5 12 1), (156, mi_iload 1 1), (157, mi_ald 12 3), (158, mi_cmp (fun x y => y ≤ x) 170), (161, mi_aload 0 1), (162, mi_getr 5 12 1), (165, mi_iload 1 1), (166, mi_ald 12 3), (167, mi_goto 171), (170, mi_iload 3 1), (171, mi_istore 3 1), (172, mi_iload 3 1), (173, mi_iload 2 1), (174, mi_cmp (fun x y => y ≤ x) 184), (177, mi_aload 0 1), (178, mi_iload 1 1), (179, mi_iload 3 1), (180, mi_call 55 3 (some 5)), (183, mi_pop)]
def rt_Mo_givesWay : List (Nat × Nat) := [(184, 0)]
/-- 58: CraneTurnsModel.second(I)V -/
def pg_Mo_second : List (Nat × mm_F) := [(0, mi_aload 0 1), (1, mi_iload 1 1), (2, mi_push 8 2), (4, mi_call 38 3 (some 5)), (7, mi_push 1 1), (8, mi_cmp (fun x y => ¬ x = y) 28), (11, mi_aload 0 1), (12, mi_iload 1 1), (13, mi_push 7 2), (15, mi_aload 0 1), (16, mi_iload 1 1), (17, mi_push 7 2), (19, mi_call 38 3 (some 5)), (22, mi_push 1 1), (23, mi_bin (fun x y => x + y) 1), (24, mi_call 39 4 (some 5)), (28, mi_aload 0 1), (29, mi_iload 1 1), (30, mi_push 2 1), (31, mi_call 38 3 (some 5)), (34, mi_if (fun x => 0 ≤ x) 42), (37, mi_aload 0 1), (38, mi_iload 1 1), (39, mi_call 54 2 (some 5)), (42, mi_aload 0 1), (43, mi_iload 1 1), (44, mi_push 2 1), (45, mi_call 38 3 (some 5)), (48, mi_if (fun x => 0 ≤ x) 57), (51, mi_aload 0 1), (52, mi_iload 1 1), (53, mi_call 57 2 (some 5)), (57, mi_push 1 1), (58, mi_istore 2 1), (59, mi_aload 0 1), (60, mi_iload 1 1), (61, mi_call 51 2 (some 5)), (64, mi_if (fun x => x = 0) 115), (67, mi_aload 0 1), (68, mi_iload 1 1), (69, mi_aload 0 1), (70, mi_iload 1 1), (71, mi_call 52 2 (some 5)), (74, mi_call 55 3 (some 5)), (77, mi_istore 2 1), (78, mi_aload 0 1), (79, mi_iload 1 1), (80, mi_push 0 1), (81, mi_call 38 3 (some 5)), (84, mi_aload 0 1), (85, mi_iload 1 1), (86, mi_call 52 2 (some 5)), (89, mi_cmp (fun x y => ¬ x = y) 120), (92, mi_aload 0 1), (93, mi_iload 1 1), (94, mi_aload 0 1), (95, mi_iload 1 1), (96, mi_push 1 1), (97, mi_call 38 3 (some 5)), (100, mi_push 1 1), (101, mi_cmp (fun x y => ¬ x = y) 108), (104, mi_push 2 1), (105, mi_goto 109), (108, mi_push 4 1), (109, mi_call 53 3 (some 5)), (112, mi_goto 120), (115, mi_aload 0 1), (116, mi_iload 1 1), (117, mi_call 56 2 (some 5)), (120, mi_aload 0 1), (121, mi_iload 1 1), (122, mi_iload 2 1), (123, mi_if (fun x => x = 0) 130), (126, mi_push 4 1), (127, mi_goto 131), (130, mi_push 5 1), (131, mi_aload 0 1), (132, mi_iload 1 1), (133, mi_iload 2 1), (134, mi_if (fun x => x = 0) 141), (137, mi_push 4 1), (138, mi_goto 142), (141, mi_push 5 1), (142, mi_call 38 3 (some 5)), (145, mi_push 1 1), (146, mi_bin (fun x y => x + y) 1), (147, mi_call 39 4 (some 5))]
def rt_Mo_second : List (Nat × Nat) := [(27, 0), (56, 0), (150, 0)]
/-- 59: CraneTurnsModel.secondOfAll()V -/
def pg_Mo_secondOfAll : List (Nat × mm_F) := [(0, mi_push 0 1), (1, mi_istore 1 1), (2, mi_iload 1 1), (3, mi_aload 0 1), (4, mi_getf 5 1), (7, mi_cmp (fun x y => y ≤ x) 21), (10, mi_aload 0 1), (11, mi_iload 1 1), (12, mi_call 58 2 (some 5)), (15, mi_iinc 1 1), (18, mi_goto 2), (21, mi_aload 0 1), (22, mi_getr 5 13 3), (25, mi_push 0 1), (26, mi_dup2), (27, mi_ald 13 110), (28, mi_push 1 1), (29, mi_bin (fun x y => x + y) 1), (30, mi_ast 13 110), (31, mi_push 1 1), (32, mi_istore 1 1), (33, mi_iload 1 1), (34, mi_aload 0 1), (35, mi_getf 5 1), (38, mi_cmp (fun x y => y ≤ x) 89), (41, mi_aload 0 1), (42, mi_iload 1 1), (43, mi_push 0 1), (44, mi_call 38 3 (some 5)), (47, mi_aload 0 1), (48, mi_iload 1 1), (49, mi_push 1 1), (50, mi_bin (fun x y => x - y) 1), (51, mi_push 0 1), (52, mi_call 38 3 (some 5)), (55, mi_bin (fun x y => x - y) 1), (56, mi_istore 2 1), (57, mi_aload 0 1), (58, mi_getr 5 13 3), (61, mi_push 1 1), (62, mi_iload 2 1), (63, mi_aload 0 1), (64, mi_getr 5 13 3), (67, mi_push 1 1), (68, mi_ald 13 110), (69, mi_cmp (fun x y => y ≤ x) 76), (72, mi_iload 2 1), (73, mi_goto 82), (76, mi_aload 0 1), (77, mi_getr 5 13 3), (80, mi_push 1 1), (81, mi_ald 13 110), (82, mi_ast 13 110), (83, mi_iinc 1 1), (86, mi_goto 33)]
def rt_Mo_secondOfAll : List (Nat × Nat) := [(89, 0)]
/-- 60: CraneTurnsModel.run(I)I -/
def pg_Mo_run : List (Nat × mm_F) := [(0, mi_aload 0 1), (1, mi_aload 0 1), (2, mi_getf 5 1), (5, mi_if (fun x => ¬ x = 0) 12), (8, mi_push 1 1), (9, mi_goto 13), (12, mi_push 0 1), (13, mi_iload 1 1), (14, mi_push 0 1), (15, mi_push 1000 3), (18, mi_call 35 3 none), (21, mi_if (fun x => x = 0) 37), (24, mi_aload 0 1), (25, mi_getr 5 13 3), (28, mi_push 0 1), (29, mi_ald 13 110), (30, mi_iload 1 1), (31, mi_bin (fun x y => x + y) 1), (32, mi_push 100000 2), (34, mi_cmp (fun x y => x ≤ y) 41), (37, mi_push 1 1), (38, mi_goto 42), (41, mi_push 0 1), (42, mi_push 0 1), (43, mi_push 0 1), (44, mi_call 34 5 (some 5)), (47, mi_if (fun x => x = 0) 52), (50, mi_push 0 1), (52, mi_push 0 1), (53, mi_istore 2 1), (54, mi_iload 2 1), (55, mi_iload 1 1), (56, mi_cmp (fun x y => y ≤ x) 69), (59, mi_aload 0 1), (60, mi_call 59 1 (some 5)), (63, mi_iinc 2 1), (66, mi_goto 54), (69, mi_aload 0 1), (70, mi_getr 5 13 3), (73, mi_push 0 1), (74, mi_ald 13 110)]
def rt_Mo_run : List (Nat × Nat) := [(51, 1), (75, 1)]
/-- 61: CraneTurnsModel.at(II)I -/
def pg_Mo_at : List (Nat × mm_F) := [(0, mi_aload 0 1), (1, mi_aload 0 1), (2, mi_iload 1 1), (3, mi_call 36 2 (some 5)), (6, mi_if (fun x => x = 0) 19), (9, mi_iload 2 1), (10, mi_push 0 1), (11, mi_push 7 2), (13, mi_call 35 3 none), (16, mi_if (fun x => ¬ x = 0) 23), (19, mi_push 1 1), (20, mi_goto 24), (23, mi_push 0 1), (24, mi_push 0 1), (25, mi_push 0 1), (26, mi_push 0 1), (27, mi_call 34 5 (some 5)), (30, mi_if (fun x => x = 0) 35), (33, mi_push 0 1), (35, mi_iload 2 1), (36, mi_push 2 1), (37, mi_cmp (fun x y => y ≤ x) 60), (40, mi_iload 2 1), (41, mi_if (fun x => ¬ x = 0) 53), (44, mi_aload 0 1), (45, mi_iload 1 1), (46, mi_push 0 1), (47, mi_call 38 3 (some 5)), (50, mi_goto 59), (53, mi_aload 0 1), (54, mi_iload 1 1), (55, mi_push 2 1), (56, mi_call 38 3 (some 5)), (60, mi_iload 2 1), (61, mi_push 7 2), (63, mi_cmp (fun x y => ¬ x = y) 73), (66, mi_aload 0 1), (67, mi_iload 1 1), (68, mi_push 1 1), (69, mi_call 38 3 (some 5)), (73, mi_iload 2 1), (74, mi_push 2 1), (75, mi_cmp (fun x y => x ≤ y) 89), (78, mi_aload 0 1), (79, mi_iload 1 1), (80, mi_push 4 1), (81, mi_iload 2 1), (82, mi_bin (fun x y => x + y) 1), (83, mi_push 3 1), (84, mi_bin (fun x y => x - y) 1), (85, mi_call 38 3 (some 5)), (89, mi_push 0 1), (90, mi_istore 3 1), (91, mi_push 0 1), (92, mi_istore 4 2), (94, mi_iload 4 2), (96, mi_aload 0 1), (97, mi_getf 5 5), (100, mi_cmp (fun x y => y ≤ x) 139), (103, mi_iload 3 1), (104, mi_aload 0 1), (105, mi_iload 4 2), (107, mi_push 3 1), (108, mi_call 40 3 (some 5)), (111, mi_push 1 1), (112, mi_cmp (fun x y => ¬ x = y) 130), (115, mi_aload 0 1), (116, mi_iload 4 2), (118, mi_push 4 1), (119, mi_call 40 3 (some 5)), (122, mi_iload 1 1), (123, mi_cmp (fun x y => ¬ x = y) 130), (126, mi_push 1 1), (127, mi_goto 131), (130, mi_push 0 1), (131, mi_bin (fun x y => x + y) 1), (132, mi_istore 3 1), (133, mi_iinc 4 1), (136, mi_goto 94), (139, mi_iload 3 1)]
def rt_Mo_at : List (Nat × Nat) := [(34, 1), (59, 1), (72, 1), (88, 1), (140, 1)]
/-- 62: CraneTurnsModel.state(II)I -/
def pg_Mo_state : List (Nat × mm_F) := [(0, mi_aload 0 1), (1, mi_aload 0 1), (2, mi_iload 1 1), (3, mi_call 37 2 (some 5)), (6, mi_if (fun x => x = 0) 18), (9, mi_iload 2 1), (10, mi_push 0 1), (11, mi_push 2 1), (12, mi_call 35 3 none), (15, mi_if (fun x => ¬ x = 0) 22), (18, mi_push 1 1), (19, mi_goto 23), (22, mi_push 0 1), (23, mi_push 0 1), (24, mi_push 0 1), (25, mi_push 0 1), (26, mi_call 34 5 (some 5)), (29, mi_if (fun x => x = 0) 34), (32, mi_push 0 1), (34, mi_iload 2 1), (35, mi_if (fun x => ¬ x = 0) 47), (38, mi_aload 0 1), (39, mi_iload 1 1), (40, mi_push 3 1), (41, mi_call 40 3 (some 5)), (44, mi_goto 67), (47, mi_iload 2 1), (48, mi_push 1 1), (49, mi_cmp (fun x y => ¬ x = y) 61), (52, mi_aload 0 1), (53, mi_iload 1 1), (54, mi_push 4 1), (55, mi_call 40 3 (some 5)), (58, mi_goto 67), (61, mi_aload 0 1), (62, mi_iload 1 1), (63, mi_push 5 1), (64, mi_call 40 3 (some 5))]
def rt_Mo_state : List (Nat × Nat) := [(33, 1), (67, 1)]
/-- 63: CraneTurnsModel.near()I -/
def pg_Mo_near : List (Nat × mm_F) := [(0, mi_aload 0 1), (1, mi_push 0 1), (2, mi_putf 5 0), (5, mi_aload 0 1), (6, mi_getr 5 13 3), (9, mi_push 1 1), (10, mi_ald 13 110)]
def rt_Mo_near : List (Nat × Nat) := [(11, 1)]
/-- 64: CraneTurnsModel.isAllDone()Z -/
def pg_Mo_isAllDone : List (Nat × mm_F) := [(0, mi_push 1 1), (1, mi_istore 1 1), (2, mi_push 0 1), (3, mi_istore 2 1), (4, mi_iload 2 1), (5, mi_aload 0 1), (6, mi_getf 5 5), (9, mi_cmp (fun x y => y ≤ x) 38), (12, mi_iload 1 1), (13, mi_if (fun x => x = 0) 30), (16, mi_aload 0 1), (17, mi_iload 2 1), (18, mi_push 3 1), (19, mi_call 40 3 (some 5)), (22, mi_push 3 1), (23, mi_cmp (fun x y => ¬ x = y) 30), (26, mi_push 1 1), (27, mi_goto 31), (30, mi_push 0 1), (31, mi_istore 1 1), (32, mi_iinc 2 1), (35, mi_goto 4), (38, mi_iload 1 1)]
def rt_Mo_isAllDone : List (Nat × Nat) := [(39, 2)]
/-- 65: CraneTurnsModel.secondsOf(II)I -/
def pg_Mo_secondsOf : List (Nat × mm_F) := [(0, mi_push 0 1), (1, mi_istore 3 1), (2, mi_iload 3 1), (3, mi_push 110 2), (5, mi_cmp (fun x y => y ≤ x) 26), (8, mi_aload 0 1), (9, mi_getr 5 13 4), (12, mi_iload 3 1), (13, mi_aload 0 1), (14, mi_getr 5 13 3), (17, mi_iload 3 1), (18, mi_ald 13 110), (19, mi_ast 13 110), (20, mi_iinc 3 1), (23, mi_goto 2), (26, mi_push 0 1), (27, mi_istore 3 1), (28, mi_iload 3 1), (29, mi_iload 1 1), (30, mi_cmp (fun x y => y ≤ x) 61), (33, mi_aload 0 1), (34, mi_aload 0 1), (35, mi_getr 5 14 5), (38, mi_iload 3 1), (39, mi_ald 14 5), (40, mi_push 10 2), (42, mi_div), (43, mi_aload 0 1), (44, mi_getr 5 14 5), (47, mi_iload 3 1), (48, mi_ald 14 5), (49, mi_push 10 2), (51, mi_rem), (52, mi_call 46 3 (some 5)), (55, mi_iinc 3 1), (58, mi_goto 28), (61, mi_push 0 1), (62, mi_istore 3 1), (63, mi_iload 3 1), (64, mi_iload 2 1), (65, mi_cmp (fun x y => y ≤ x) 85), (68, mi_aload 0 1), (69, mi_call 64 1 (some 5)), (72, mi_if (fun x => ¬ x = 0) 85), (75, mi_aload 0 1), (76, mi_call 59 1 (some 5)), (79, mi_iinc 3 1), (82, mi_goto 63), (85, mi_aload 0 1), (86, mi_call 64 1 (some 5)), (89, mi_istore 4 2), (91, mi_push 0 1), (92, mi_istore 5 2), (94, mi_iload 5 2), (96, mi_push 110 2), (98, mi_cmp (fun x y => y ≤ x) 121), (101, mi_aload 0 1), (102, mi_getr 5 13 3), (105, mi_iload 5 2), (107, mi_aload 0 1), (108, mi_getr 5 13 4), (111, mi_iload 5 2), (113, mi_ald 13 110), (114, mi_ast 13 110), (115, mi_iinc 5 1), (118, mi_goto 94), (121, mi_iload 4 2), (123, mi_if (fun x => x = 0) 130), (126, mi_iload 3 1), (127, mi_goto 131), (130, mi_push (-1) 1)]
def rt_Mo_secondsOf : List (Nat × Nat) := [(131, 1)]
/-- 66: CraneTurnsModel.isInWay(I)Z -/
def pg_Mo_isInWay : List (Nat × mm_F) := [(0, mi_push 0 1), (1, mi_istore 2 1), (2, mi_push 0 1), (3, mi_istore 3 1), (4, mi_iload 3 1), (5, mi_iload 1 1), (6, mi_cmp (fun x y => y ≤ x) 46), (9, mi_iload 2 1), (10, mi_if (fun x => ¬ x = 0) 34), (13, mi_aload 0 1), (14, mi_getr 5 14 5), (17, mi_iload 3 1), (18, mi_ald 14 5), (19, mi_push 10 2), (21, mi_div), (22, mi_aload 0 1), (23, mi_getr 5 14 5), (26, mi_iload 1 1), (27, mi_ald 14 5), (28, mi_push 10 2), (30, mi_div), (31, mi_cmp (fun x y => ¬ x = y) 38), (34, mi_push 1 1), (35, mi_goto 39), (38, mi_push 0 1), (39, mi_istore 2 1), (40, mi_iinc 3 1), (43, mi_goto 4), (46, mi_iload 2 1)]
def rt_Mo_isInWay : List (Nat × Nat) := [(47, 2)]
/-- 67: CraneTurnsModel.may(I)Z -/
def pg_Mo_may : List (Nat × mm_F) := [(0, mi_aload 0 1), (1, mi_getr 5 14 5), (4, mi_iload 1 1), (5, mi_ald 14 5), (6, mi_push 10 2), (8, mi_div), (9, mi_istore 2 1), (10, mi_aload 0 1), (11, mi_getr 5 14 5), (14, mi_iload 1 1), (15, mi_ald 14 5), (16, mi_push 10 2), (18, mi_rem), (19, mi_istore 3 1), (20, mi_iload 3 1), (21, mi_aload 0 1), (22, mi_getf 5 1), (25, mi_cmp (fun x y => y ≤ x) 58), (28, mi_aload 0 1), (29, mi_iload 2 1), (30, mi_push 3 1), (31, mi_call 40 3 (some 5)), (34, mi_if (fun x => ¬ x = 0) 58), (37, mi_aload 0 1), (38, mi_iload 1 1), (39, mi_call 66 2 (some 5)), (42, mi_if (fun x => ¬ x = 0) 58), (45, mi_aload 0 1), (46, mi_iload 3 1), (47, mi_iload 2 1), (48, mi_call 45 3 (some 5)), (51, mi_if (fun x => x = 0) 58), (54, mi_push 1 1), (55, mi_goto 59), (58, mi_push 0 1)]
def rt_Mo_may : List (Nat × Nat) := [(59, 2)]
/-- 68: CraneTurnsModel.plan(I)I -/
def pg_Mo_plan : List (Nat × mm_F) := [(0, mi_push 0 1), (1, mi_istore 2 1), (2, mi_push 0 1), (3, mi_istore 3 1), (4, mi_iload 3 1), (5, mi_aload 0 1), (6, mi_getf 5 5), (9, mi_cmp (fun x y => y ≤ x) 35), (12, mi_iload 2 1), (13, mi_aload 0 1), (14, mi_iload 3 1), (15, mi_push 3 1), (16, mi_call 40 3 (some 5)), (19, mi_if (fun x => ¬ x = 0) 26), (22, mi_push 1 1), (23, mi_goto 27), (26, mi_push 0 1), (27, mi_bin (fun x y => x + y) 1), (28, mi_istore 2 1), (29, mi_iinc 3 1), (32, mi_goto 4), (35, mi_aload 0 1), (36, mi_aload 0 1), (37, mi_getf 5 1), (40, mi_if (fun x => ¬ x = 0) 47), (43, mi_push 1 1), (44, mi_goto 48), (47, mi_push 0 1), (48, mi_iload 1 1), (49, mi_push 1 1), (50, mi_push 300 3), (53, mi_call 35 3 none), (56, mi_if (fun x => ¬ x = 0) 63), (59, mi_push 1 1), (60, mi_goto 64), (63, mi_push 0 1), (64, mi_iload 2 1), (65, mi_push 4 1), (66, mi_cmp (fun x y => x ≤ y) 73), (69, mi_push 1 1), (70, mi_goto 74), (73, mi_push 0 1), (74, mi_push 0 1), (75, mi_call 34 5 (some 5)), (78, mi_if (fun x => x = 0) 83), (81, mi_push 0 1), (83, mi_aload 0 1), (84, mi_push 0 1), (85, mi_putf 5 12), (88, mi_push (-1) 1), (89, mi_istore 3 1), (90, mi_push 0 1), (91, mi_istore 4 2), (93, mi_aload 0 1), (94, mi_getr 5 14 5), (97, mi_push 0 1), (98, mi_push (-1) 1), (99, mi_ast 14 5), (100, mi_iload 4 2), (102, mi_if (fun x => x < 0) 265), (105, mi_iload 4 2), (107, mi_iload 2 1), (108, mi_cmp (fun x y => ¬ x = y) 177), (111, mi_aload 0 1), (112, mi_iload 2 1), (113, mi_iload 1 1), (114, mi_call 65 3 (some 5)), (117, mi_istore 5 2), (119, mi_iload 5 2), (121, mi_if (fun x => x < 0) 171), (124, mi_iload 3 1), (125, mi_if (fun x => x < 0) 134), (128, mi_iload 5 2), (130, mi_iload 3 1), (131, mi_cmp (fun x y => y ≤ x) 171), (134, mi_iload 5 2), (136, mi_istore 3 1), (137, mi_aload 0 1), (138, mi_iload 2 1), (139, mi_putf 5 12), (142, mi_push 0 1), (143, mi_istore 6 2), (145, mi_iload 6 2), (147, mi_iload 2 1), (148, mi_cmp (fun x y => y ≤ x) 171), (151, mi_aload 0 1), (152, mi_getr 5 6 6), (155, mi_iload 6 2), (157, mi_aload 0 1), (158, mi_getr 5 14 5), (161, mi_iload 6 2), (163, mi_ald 14 5), (164, mi_ast 6 4), (165, mi_iinc 6 1), (168, mi_goto 145), (171, mi_iinc 4 (-1)), (174, mi_goto 100), (177, mi_aload 0 1), (178, mi_getr 5 14 5), (181, mi_iload 4 2), (183, mi_dup2), (184, mi_ald 14 5), (185, mi_push 1 1), (186, mi_bin (fun x y => x + y) 1), (187, mi_ast 14 5), (188, mi_aload 0 1), (189, mi_getr 5 14 5), (192, mi_iload 4 2), (194, mi_ald 14 5), (195, mi_push 10 2), (197, mi_aload 0 1), (198, mi_getf 5 5), (201, mi_bin (fun x y => x * y) 1), (202, mi_cmp (fun x y => y ≤ x) 228), (205, mi_aload 0 1), (206, mi_iload 4 2), (208, mi_call 67 2 (some 5)), (211, mi_if (fun x => ¬ x = 0) 228), (214, mi_aload 0 1), (215, mi_getr 5 14 5), (218, mi_iload 4 2), (220, mi_dup2), (221, mi_ald 14 5), (222, mi_push 1 1), (223, mi_bin (fun x y => x + y) 1), (224, mi_ast 14 5), (225, mi_goto 188), (228, mi_aload 0 1), (229, mi_getr 5 14 5), (232, mi_iload 4 2), (234, mi_ald 14 5), (235, mi_push 10 2), (237, mi_aload 0 1), (238, mi_getf 5 5), (241, mi_bin (fun x y => x * y) 1), (242, mi_cmp (fun x y => y ≤ x) 259), (245, mi_iinc 4 1), (248, mi_aload 0 1), (249, mi_getr 5 14 5), (252, mi_iload 4 2), (254, mi_push (-1) 1), (255, mi_ast 14 5), (256, mi_goto 100), (259, mi_iinc 4 (-1)), (262, mi_goto 100), (265, mi_iload 3 1)]
def rt_Mo_plan : List (Nat × Nat) := [(82, 1), (266, 1)]
/-- 69: CraneTurnsModel.planned(I)I -/
def pg_Mo_planned : List (Nat × mm_F) := [(0, mi_aload 0 1), (1, mi_iload 1 1), (2, mi_if (fun x => 0 ≤ x) 9), (5, mi_push 1 1), (6, mi_goto 10), (9, mi_push 0 1), (10, mi_push 0 1), (11, mi_push 0 1), (12, mi_push 0 1), (13, mi_call 34 5 (some 5)), (16, mi_if (fun x => x = 0) 21), (19, mi_push 0 1), (21, mi_iload 1 1), (22, mi_aload 0 1), (23, mi_getf 5 12), (26, mi_cmp (fun x y => y ≤ x) 38), (29, mi_aload 0 1), (30, mi_getr 5 6 6), (33, mi_iload 1 1), (34, mi_ald 6 4), (35, mi_goto 39), (38, mi_push (-1) 1)]
def rt_Mo_planned : List (Nat × Nat) := [(20, 1), (39, 1)]
def ct_pg : Nat → List (Nat × mm_F) := fun z => ([pg_Ct_near, pg_Ct_within, pg_Cr_stand, pg_Cr_reaches, pg_Cr_hasGoal, pg_Cr_queue, pg_Cr_unqueue, pg_Cr_copyOf, pg_Jb_copyOf, pg_Pl_search, pg_Pl_bestGiving, pg_Pl_extendWay, pg_Pl_isTriedAlready, pg_Pl_tryWay, pg_Pl_keepWay, pg_Yd_hasTrack, pg_Yd_lay, pg_Yd_addJob, pg_Yd_hand, pg_Yd_free, pg_Yd_countFree, pg_Yd_floorOf, pg_Yd_ceilingOf, pg_Yd_hasRoom, pg_Yd_passSecond, pg_Yd_passSecondOf, pg_Yd_takeFirst, pg_Yd_handleIfThere, pg_Yd_liftOn, pg_Yd_setOn, pg_Yd_placeOutOfTheWay, pg_Yd_moveToward, pg_Yd_copyOf, pg_Mo_thrown, pg_Mo_throwing, pg_Mo_in, pg_Mo_isCrane, pg_Mo_isJob, pg_Mo_ofCrane, pg_Mo_setCrane, pg_Mo_ofJob, pg_Mo_setJob, pg_Mo_track, pg_Mo_crane, pg_Mo_job, pg_Mo_reaches, pg_Mo_giveTo, pg_Mo_give, pg_Mo_take, pg_Mo_broken, pg_Mo_firstOf, pg_Mo_hasGoal, pg_Mo_goalOf, pg_Mo_begins, pg_Mo_takesJob, pg_Mo_goes, pg_Mo_lessToGo, pg_Mo_givesWay, pg_Mo_second, pg_Mo_secondOfAll, pg_Mo_run, pg_Mo_at, pg_Mo_state, pg_Mo_near, pg_Mo_isAllDone, pg_Mo_secondsOf, pg_Mo_isInWay, pg_Mo_may, pg_Mo_plan, pg_Mo_planned] : List (List (Nat × mm_F))).getD z []
def ct_rt : Nat → List (Nat × Nat) := fun z => ([rt_Ct_near, rt_Ct_within, rt_Cr_stand, rt_Cr_reaches, rt_Cr_hasGoal, rt_Cr_queue, rt_Cr_unqueue, rt_Cr_copyOf, rt_Jb_copyOf, rt_Pl_search, rt_Pl_bestGiving, rt_Pl_extendWay, rt_Pl_isTriedAlready, rt_Pl_tryWay, rt_Pl_keepWay, rt_Yd_hasTrack, rt_Yd_lay, rt_Yd_addJob, rt_Yd_hand, rt_Yd_free, rt_Yd_countFree, rt_Yd_floorOf, rt_Yd_ceilingOf, rt_Yd_hasRoom, rt_Yd_passSecond, rt_Yd_passSecondOf, rt_Yd_takeFirst, rt_Yd_handleIfThere, rt_Yd_liftOn, rt_Yd_setOn, rt_Yd_placeOutOfTheWay, rt_Yd_moveToward, rt_Yd_copyOf, rt_Mo_thrown, rt_Mo_throwing, rt_Mo_in, rt_Mo_isCrane, rt_Mo_isJob, rt_Mo_ofCrane, rt_Mo_setCrane, rt_Mo_ofJob, rt_Mo_setJob, rt_Mo_track, rt_Mo_crane, rt_Mo_job, rt_Mo_reaches, rt_Mo_giveTo, rt_Mo_give, rt_Mo_take, rt_Mo_broken, rt_Mo_firstOf, rt_Mo_hasGoal, rt_Mo_goalOf, rt_Mo_begins, rt_Mo_takesJob, rt_Mo_goes, rt_Mo_lessToGo, rt_Mo_givesWay, rt_Mo_second, rt_Mo_secondOfAll, rt_Mo_run, rt_Mo_at, rt_Mo_state, rt_Mo_near, rt_Mo_isAllDone, rt_Mo_secondsOf, rt_Mo_isInWay, rt_Mo_may, rt_Mo_plan, rt_Mo_planned] : List (List (Nat × Nat))).getD z []
/-- what the methods do -/
def ct_Sem : Nat → mm_S := mm_Sem ct_T.2.2.1 ct_pg ct_rt
end
section
section
variable {D : va_G} {ad : Nat → Nat} {cA : Nat → ClassId} {l : Launch} {d : Nat} {S : mm_S}
set_option maxRecDepth 100000 in
set_option maxHeartbeats 4000000 in
theorem po_Ct_near (hS : mm_Sound ct_GW ct_NW D ct_cl (ct_tys cA) ad cA ct_K ct_kd ct_N l ct_T (mm_rm d) S) : ∀ pc f, mm_at pg_Ct_near pc = some f → mm_Ok ct_GW ct_NW D ct_cl (ct_tys cA) ad cA ct_K ct_kd ct_N l (mm_rm (d + 1)) "CraneTurns" prog_1_method_11_code 1 S pc f :=
  mm_at_cons (ok_aload_n (k := 0) (by decide +kernel) rfl) <|
  mm_at_cons (ok_getr (ck := 3) (off := 8) (ci := 4) (k := 0) (idx := 10) rfl ct_in4 (by decide) ww_0 rfl rfl (by decide +kernel)) <|
  mm_at_cons (ok_getf (ci := 3) (k := 5) (idx := 165) rfl ct_in3 (by decide) ww_1 rfl rfl (by decide +kernel)) <|
  mm_at_nil
theorem ro_Ct_near : mm_RtOk prog_1_method_11_code (some .int) rt_Ct_near :=
  mm_rt_cons (Or.inr (Or.inl ⟨rfl, rfl, by decide +kernel⟩)) <|
  mm_rt_nil
set_option maxRecDepth 100000 in
set_option maxHeartbeats 4000000 in
theorem po_Ct_within (hS : mm_Sound ct_GW ct_NW D ct_cl (ct_tys cA) ad cA ct_K ct_kd ct_N l ct_T (mm_rm d) S) : ∀ pc f, mm_at pg_Ct_within pc = some f → mm_Ok ct_GW ct_NW D ct_cl (ct_tys cA) ad cA ct_K ct_kd ct_N l (mm_rm (d + 1)) "CraneTurns" prog_1_method_14_code 3 S pc f :=
  mm_at_cons (ok_iload_n (k := 0) (by decide +kernel) rfl) <|
  mm_at_cons (ok_iload_n (k := 1) (by decide +kernel) rfl) <|
  mm_at_cons (ok_icmp_lt (off := 12) (by decide +kernel) (by decide)) <|
  mm_at_cons (ok_iload_n (k := 0) (by decide +kernel) rfl) <|
  mm_at_cons (ok_iload_n (k := 2) (by decide +kernel) rfl) <|
  mm_at_cons (ok_icmp_gt (off := 7) (by decide +kernel) (by decide)) <|
  mm_at_cons (ok_iconst (n := 1) (by decide +kernel) (by decide)) <|
  mm_at_cons (ok_goto (off := 4) (by decide +kernel) (by decide)) <|
  mm_at_cons (ok_iconst (n := 0) (by decide +kernel) (by decide)) <|
  mm_at_nil
theorem ro_Ct_within : mm_RtOk prog_1_method_14_code (some .boolean) rt_Ct_within :=
  mm_rt_cons (Or.inr (Or.inr ⟨rfl, rfl, by decide +kernel⟩)) <|
  mm_rt_nil
set_option maxRecDepth 100000 in
set_option maxHeartbeats 4000000 in
theorem po_Cr_stand (hS : mm_Sound ct_GW ct_NW D ct_cl (ct_tys cA) ad cA ct_K ct_kd ct_N l ct_T (mm_rm d) S) : ∀ pc f, mm_at pg_Cr_stand pc = some f → mm_Ok ct_GW ct_NW D ct_cl (ct_tys cA) ad cA ct_K ct_kd ct_N l (mm_rm (d + 1)) "CraneTurns$Crane" prog_2_method_2_code 4 S pc f :=
  mm_at_cons (ok_aload_n (k := 0) (by decide +kernel) rfl) <|
  mm_at_cons (ok_iload_n (k := 1) (by decide +kernel) rfl) <|
  mm_at_cons (ok_putf (ci := 0) (k := 0) (idx := 25) rfl ct_in0 (by decide) ww_2 rfl ct_ty0 ct_tyok0 ct_nm0 rfl (by decide +kernel) rfl (by decide +kernel)) <|
  mm_at_cons (ok_aload_n (k := 0) (by decide +kernel) rfl) <|
  mm_at_cons (ok_iload_n (k := 2) (by decide +kernel) rfl) <|
  mm_at_cons (ok_putf (ci := 0) (k := 1) (idx := 28) rfl ct_in0 (by decide) ww_3 rfl ct_ty0 ct_tyok0 ct_nm0 rfl (by decide +kernel) rfl (by decide +kernel)) <|
  mm_at_cons (ok_aload_n (k := 0) (by decide +kernel) rfl) <|
  mm_at_cons (ok_iload_n (k := 3) (by decide +kernel) rfl) <|
  mm_at_cons (ok_putf (ci := 0) (k := 2) (idx := 31) rfl ct_in0 (by decide) ww_4 rfl ct_ty0 ct_tyok0 ct_nm0 rfl (by decide +kernel) rfl (by decide +kernel)) <|
  mm_at_nil
theorem ro_Cr_stand : mm_RtOk prog_2_method_2_code (none) rt_Cr_stand :=
  mm_rt_cons (Or.inl ⟨rfl, rfl, by decide +kernel⟩) <|
  mm_rt_nil
set_option maxRecDepth 100000 in
set_option maxHeartbeats 4000000 in
theorem po_Cr_reaches (hS : mm_Sound ct_GW ct_NW D ct_cl (ct_tys cA) ad cA ct_K ct_kd ct_N l ct_T (mm_rm d) S) : ∀ pc f, mm_at pg_Cr_reaches pc = some f → mm_Ok ct_GW ct_NW D ct_cl (ct_tys cA) ad cA ct_K ct_kd ct_N l (mm_rm (d + 1)) "CraneTurns$Crane" prog_2_method_3_code 2 S pc f :=
  mm_at_cons (ok_aload_n (k := 1) (by decide +kernel) rfl) <|
  mm_at_cons (ok_getf (ci := 1) (k := 0) (idx := 34) rfl ct_in1 (by decide) ww_5 rfl rfl (by decide +kernel)) <|
  mm_at_cons (ok_aload_n (k := 0) (by decide +kernel) rfl) <|
  mm_at_cons (ok_getf (ci := 0) (k := 1) (idx := 28) rfl ct_in0 (by decide) ww_3 rfl rfl (by decide +kernel)) <|
  mm_at_cons (ok_aload_n (k := 0) (by decide +kernel) rfl) <|
  mm_at_cons (ok_getf (ci := 0) (k := 2) (idx := 31) rfl ct_in0 (by decide) ww_4 rfl rfl (by decide +kernel)) <|
  mm_at_cons (ok_callN (z := 1) (idx := 39) (host := "CraneTurns") hS ⟨rfl, rfl⟩ (mm_rmok (by decide)) ct_good ww_6 (mm_2 ww_7 ww_8) (by decide +kernel) (by decide +kernel) (by decide +kernel)) <|
  mm_at_cons (ok_if_eq (off := 25) (by decide +kernel) (by decide)) <|
  mm_at_cons (ok_aload_n (k := 1) (by decide +kernel) rfl) <|
  mm_at_cons (ok_getf (ci := 1) (k := 1) (idx := 43) rfl ct_in1 (by decide) ww_9 rfl rfl (by decide +kernel)) <|
  mm_at_cons (ok_aload_n (k := 0) (by decide +kernel) rfl) <|
  mm_at_cons (ok_getf (ci := 0) (k := 1) (idx := 28) rfl ct_in0 (by decide) ww_3 rfl rfl (by decide +kernel)) <|
  mm_at_cons (ok_aload_n (k := 0) (by decide +kernel) rfl) <|
  mm_at_cons (ok_getf (ci := 0) (k := 2) (idx := 31) rfl ct_in0 (by decide) ww_4 rfl rfl (by decide +kernel)) <|
  mm_at_cons (ok_callN (z := 1) (idx := 39) (host := "CraneTurns") hS ⟨rfl, rfl⟩ (mm_rmok (by decide)) ct_good ww_6 (mm_2 ww_7 ww_8) (by decide +kernel) (by decide +kernel) (by decide +kernel)) <|
  mm_at_cons (ok_if_eq (off := 7) (by decide +kernel) (by decide)) <|
  mm_at_cons (ok_iconst (n := 1) (by decide +kernel) (by decide)) <|
  mm_at_cons (ok_goto (off := 4) (by decide +kernel) (by decide)) <|
  mm_at_cons (ok_iconst (n := 0) (by decide +kernel) (by decide)) <|
  mm_at_nil
theorem ro_Cr_reaches : mm_RtOk prog_2_method_3_code (some .boolean) rt_Cr_reaches :=
  mm_rt_cons (Or.inr (Or.inr ⟨rfl, rfl, by decide +kernel⟩)) <|
  mm_rt_nil
set_option maxRecDepth 100000 in
set_option maxHeartbeats 4000000 in
theorem po_Cr_hasGoal (hS : mm_Sound ct_GW ct_NW D ct_cl (ct_tys cA) ad cA ct_K ct_kd ct_N l ct_T (mm_rm d) S) : ∀ pc f, mm_at pg_Cr_hasGoal pc = some f → mm_Ok ct_GW ct_NW D ct_cl (ct_tys cA) ad cA ct_K ct_kd ct_N l (mm_rm (d + 1)) "CraneTurns$Crane" prog_2_method_4_code 1 S pc f :=
  mm_at_cons (ok_aload_n (k := 0) (by decide +kernel) rfl) <|
  mm_at_cons (ok_getf (ci := 0) (k := 5) (idx := 15) rfl ct_in0 (by decide) ww_10 rfl rfl (by decide +kernel)) <|
  mm_at_cons (ok_iconst (n := 1) (by decide +kernel) (by decide)) <|
  mm_at_cons (ok_icmp_eq (off := 11) (by decide +kernel) (by decide)) <|
  mm_at_cons (ok_aload_n (k := 0) (by decide +kernel) rfl) <|
  mm_at_cons (ok_getf (ci := 0) (k := 5) (idx := 15) rfl ct_in0 (by decide) ww_10 rfl rfl (by decide +kernel)) <|
  mm_at_cons (ok_iconst (n := 3) (by decide +kernel) (by decide)) <|
  mm_at_cons (ok_icmp_ne (off := 7) (by decide +kernel) (by decide)) <|
  mm_at_cons (ok_iconst (n := 1) (by decide +kernel) (by decide)) <|
  mm_at_cons (ok_goto (off := 4) (by decide +kernel) (by decide)) <|
  mm_at_cons (ok_iconst (n := 0) (by decide +kernel) (by decide)) <|
  mm_at_nil
theorem ro_Cr_hasGoal : mm_RtOk prog_2_method_4_code (some .boolean) rt_Cr_hasGoal :=
  mm_rt_cons (Or.inr (Or.inr ⟨rfl, rfl, by decide +kernel⟩)) <|
  mm_rt_nil
set_option maxRecDepth 100000 in
set_option maxHeartbeats 4000000 in
theorem po_Cr_queue (hS : mm_Sound ct_GW ct_NW D ct_cl (ct_tys cA) ad cA ct_K ct_kd ct_N l ct_T (mm_rm d) S) : ∀ pc f, mm_at pg_Cr_queue pc = some f → mm_Ok ct_GW ct_NW D ct_cl (ct_tys cA) ad cA ct_K ct_kd ct_N l (mm_rm (d + 1)) "CraneTurns$Crane" prog_2_method_5_code 2 S pc f :=
  mm_at_cons (ok_aload_n (k := 0) (by decide +kernel) rfl) <|
  mm_at_cons (ok_getf (ci := 0) (k := 10) (idx := 46) rfl ct_in0 (by decide) ww_11 rfl rfl (by decide +kernel)) <|
  mm_at_cons (ok_bipush (n := 8) (by decide +kernel) (by decide)) <|
  mm_at_cons (ok_icmp_ge (off := 23) (by decide +kernel) (by decide)) <|
  mm_at_cons (ok_aload_n (k := 0) (by decide +kernel) rfl) <|
  mm_at_cons (ok_getr (ck := 7) (off := 2) (ci := 0) (k := 9) (idx := 22) rfl ct_in0 (by decide) ww_12 rfl rfl (by decide +kernel)) <|
  mm_at_cons (ok_aload_n (k := 0) (by decide +kernel) rfl) <|
  mm_at_cons (ok_getf (ci := 0) (k := 10) (idx := 46) rfl ct_in0 (by decide) ww_11 rfl rfl (by decide +kernel)) <|
  mm_at_cons (ok_iload_n (k := 1) (by decide +kernel) rfl) <|
  mm_at_cons (ok_iast (t9 := 0) (by decide) rfl rfl (by decide +kernel)) <|
  mm_at_cons (ok_aload_n (k := 0) (by decide +kernel) rfl) <|
  mm_at_cons (ok_dup (by decide +kernel)) <|
  mm_at_cons (ok_getf (ci := 0) (k := 10) (idx := 46) rfl ct_in0 (by decide) ww_11 rfl rfl (by decide +kernel)) <|
  mm_at_cons (ok_iconst (n := 1) (by decide +kernel) (by decide)) <|
  mm_at_cons (ok_iadd (by decide +kernel)) <|
  mm_at_cons (ok_putf (ci := 0) (k := 10) (idx := 46) rfl ct_in0 (by decide) ww_11 rfl ct_ty0 ct_tyok0 ct_nm0 rfl (by decide +kernel) rfl (by decide +kernel)) <|
  mm_at_nil
theorem ro_Cr_queue : mm_RtOk prog_2_method_5_code (none) rt_Cr_queue :=
  mm_rt_cons (Or.inl ⟨rfl, rfl, by decide +kernel⟩) <|
  mm_rt_nil
set_option maxRecDepth 100000 in
set_option maxHeartbeats 4000000 in
theorem po_Cr_unqueue (hS : mm_Sound ct_GW ct_NW D ct_cl (ct_tys cA) ad cA ct_K ct_kd ct_N l ct_T (mm_rm d) S) : ∀ pc f, mm_at pg_Cr_unqueue pc = some f → mm_Ok ct_GW ct_NW D ct_cl (ct_tys cA) ad cA ct_K ct_kd ct_N l (mm_rm (d + 1)) "CraneTurns$Crane" prog_2_method_6_code 4 S pc f :=
  mm_at_cons (ok_iconst (n := 0) (by decide +kernel) (by decide)) <|
  mm_at_cons (ok_istore_n (k := 2) (by decide +kernel) rfl) <|
  mm_at_cons (ok_iconst (n := 0) (by decide +kernel) (by decide)) <|
  mm_at_cons (ok_istore_n (k := 3) (by decide +kernel) rfl) <|
  mm_at_cons (ok_iload_n (k := 3) (by decide +kernel) rfl) <|
  mm_at_cons (ok_aload_n (k := 0) (by decide +kernel) rfl) <|
  mm_at_cons (ok_getf (ci := 0) (k := 10) (idx := 46) rfl ct_in0 (by decide) ww_11 rfl rfl (by decide +kernel)) <|
  mm_at_cons (ok_icmp_ge (off := 34) (by decide +kernel) (by decide)) <|
  mm_at_cons (ok_aload_n (k := 0) (by decide +kernel) rfl) <|
  mm_at_cons (ok_getr (ck := 7) (off := 2) (ci := 0) (k := 9) (idx := 22) rfl ct_in0 (by decide) ww_12 rfl rfl (by decide +kernel)) <|
  mm_at_cons (ok_iload_n (k := 3) (by decide +kernel) rfl) <|
  mm_at_cons (ok_iald (t9 := 0) (by decide) rfl rfl (by decide +kernel)) <|
  mm_at_cons (ok_iload_n (k := 1) (by decide +kernel) rfl) <|
  mm_at_cons (ok_icmp_eq (off := 18) (by decide +kernel) (by decide)) <|
  mm_at_cons (ok_aload_n (k := 0) (by decide +kernel) rfl) <|
  mm_at_cons (ok_getr (ck := 7) (off := 2) (ci := 0) (k := 9) (idx := 22) rfl ct_in0 (by decide) ww_12 rfl rfl (by decide +kernel)) <|
  mm_at_cons (ok_iload_n (k := 2) (by decide +kernel) rfl) <|
  mm_at_cons (ok_aload_n (k := 0) (by decide +kernel) rfl) <|
  mm_at_cons (ok_getr (ck := 7) (off := 2) (ci := 0) (k := 9) (idx := 22) rfl ct_in0 (by decide) ww_12 rfl rfl (by decide +kernel)) <|
  mm_at_cons (ok_iload_n (k := 3) (by decide +kernel) rfl) <|
  mm_at_cons (ok_iald (t9 := 0) (by decide) rfl rfl (by decide +kernel)) <|
  mm_at_cons (ok_iast (t9 := 0) (by decide) rfl rfl (by decide +kernel)) <|
  mm_at_cons (ok_iinc (n := 1) (by decide +kernel) (by decide)) <|
  mm_at_cons (ok_iinc (n := 1) (by decide +kernel) (by decide)) <|
  mm_at_cons (ok_goto (off := (-36)) (by decide +kernel) (by decide)) <|
  mm_at_cons (ok_aload_n (k := 0) (by decide +kernel) rfl) <|
  mm_at_cons (ok_iload_n (k := 2) (by decide +kernel) rfl) <|
  mm_at_cons (ok_putf (ci := 0) (k := 10) (idx := 46) rfl ct_in0 (by decide) ww_11 rfl ct_ty0 ct_tyok0 ct_nm0 rfl (by decide +kernel) rfl (by decide +kernel)) <|
  mm_at_nil
theorem ro_Cr_unqueue : mm_RtOk prog_2_method_6_code (none) rt_Cr_unqueue :=
  mm_rt_cons (Or.inl ⟨rfl, rfl, by decide +kernel⟩) <|
  mm_rt_nil
set_option maxRecDepth 100000 in
set_option maxHeartbeats 4000000 in
theorem po_Cr_copyOf (hS : mm_Sound ct_GW ct_NW D ct_cl (ct_tys cA) ad cA ct_K ct_kd ct_N l ct_T (mm_rm d) S) : ∀ pc f, mm_at pg_Cr_copyOf pc = some f → mm_Ok ct_GW ct_NW D ct_cl (ct_tys cA) ad cA ct_K ct_kd ct_N l (mm_rm (d + 1)) "CraneTurns$Crane" prog_2_method_7_code 2 S pc f :=
  mm_at_cons (ok_aload_n (k := 0) (by decide +kernel) rfl) <|
  mm_at_cons (ok_aload_n (k := 1) (by decide +kernel) rfl) <|
  mm_at_cons (ok_getf (ci := 0) (k := 0) (idx := 25) rfl ct_in0 (by decide) ww_2 rfl rfl (by decide +kernel)) <|
  mm_at_cons (ok_aload_n (k := 1) (by decide +kernel) rfl) <|
  mm_at_cons (ok_getf (ci := 0) (k := 1) (idx := 28) rfl ct_in0 (by decide) ww_3 rfl rfl (by decide +kernel)) <|
  mm_at_cons (ok_aload_n (k := 1) (by decide +kernel) rfl) <|
  mm_at_cons (ok_getf (ci := 0) (k := 2) (idx := 31) rfl ct_in0 (by decide) ww_4 rfl rfl (by decide +kernel)) <|
  mm_at_cons (ok_callV (z := 2) (ci := 0) (idx := 49) rfl hS ⟨rfl, rfl⟩ (mm_rmok (by decide)) rfl ct_good ww_13 (mm_4 ww_15 ww_16 ww_14 ww_17) (by decide +kernel) (by decide +kernel)) <|
  mm_at_cons (ok_aload_n (k := 0) (by decide +kernel) rfl) <|
  mm_at_cons (ok_aload_n (k := 1) (by decide +kernel) rfl) <|
  mm_at_cons (ok_getf (ci := 0) (k := 3) (idx := 53) rfl ct_in0 (by decide) ww_18 rfl rfl (by decide +kernel)) <|
  mm_at_cons (ok_putz (ci := 0) (k := 3) (idx := 53) rfl ct_in0 (by decide) ww_18 rfl ct_ty0 ct_tyok0 ct_nm0 rfl (by decide +kernel) rfl (by decide +kernel)) <|
  mm_at_cons (ok_aload_n (k := 0) (by decide +kernel) rfl) <|
  mm_at_cons (ok_aload_n (k := 1) (by decide +kernel) rfl) <|
  mm_at_cons (ok_getf (ci := 0) (k := 4) (idx := 9) rfl ct_in0 (by decide) ww_19 rfl rfl (by decide +kernel)) <|
  mm_at_cons (ok_putf (ci := 0) (k := 4) (idx := 9) rfl ct_in0 (by decide) ww_19 rfl ct_ty0 ct_tyok0 ct_nm0 rfl (by decide +kernel) rfl (by decide +kernel)) <|
  mm_at_cons (ok_aload_n (k := 0) (by decide +kernel) rfl) <|
  mm_at_cons (ok_aload_n (k := 1) (by decide +kernel) rfl) <|
  mm_at_cons (ok_getf (ci := 0) (k := 5) (idx := 15) rfl ct_in0 (by decide) ww_10 rfl rfl (by decide +kernel)) <|
  mm_at_cons (ok_putf (ci := 0) (k := 5) (idx := 15) rfl ct_in0 (by decide) ww_10 rfl ct_ty0 ct_tyok0 ct_nm0 rfl (by decide +kernel) rfl (by decide +kernel)) <|
  mm_at_cons (ok_aload_n (k := 0) (by decide +kernel) rfl) <|
  mm_at_cons (ok_aload_n (k := 1) (by decide +kernel) rfl) <|
  mm_at_cons (ok_getf (ci := 0) (k := 6) (idx := 57) rfl ct_in0 (by decide) ww_20 rfl rfl (by decide +kernel)) <|
  mm_at_cons (ok_putf (ci := 0) (k := 6) (idx := 57) rfl ct_in0 (by decide) ww_20 rfl ct_ty0 ct_tyok0 ct_nm0 rfl (by decide +kernel) rfl (by decide +kernel)) <|
  mm_at_cons (ok_aload_n (k := 0) (by decide +kernel) rfl) <|
  mm_at_cons (ok_aload_n (k := 1) (by decide +kernel) rfl) <|
  mm_at_cons (ok_getf (ci := 0) (k := 7) (idx := 60) rfl ct_in0 (by decide) ww_21 rfl rfl (by decide +kernel)) <|
  mm_at_cons (ok_putf (ci := 0) (k := 7) (idx := 60) rfl ct_in0 (by decide) ww_21 rfl ct_ty0 ct_tyok0 ct_nm0 rfl (by decide +kernel) rfl (by decide +kernel)) <|
  mm_at_cons (ok_aload_n (k := 0) (by decide +kernel) rfl) <|
  mm_at_cons (ok_aload_n (k := 1) (by decide +kernel) rfl) <|
  mm_at_cons (ok_getf (ci := 0) (k := 10) (idx := 46) rfl ct_in0 (by decide) ww_11 rfl rfl (by decide +kernel)) <|
  mm_at_cons (ok_putf (ci := 0) (k := 10) (idx := 46) rfl ct_in0 (by decide) ww_11 rfl ct_ty0 ct_tyok0 ct_nm0 rfl (by decide +kernel) rfl (by decide +kernel)) <|
  mm_at_cons (ok_aload_n (k := 1) (by decide +kernel) rfl) <|
  mm_at_cons (ok_getr (ck := 6) (off := 1) (ci := 0) (k := 8) (idx := 18) rfl ct_in0 (by decide) ww_22 rfl rfl (by decide +kernel)) <|
  mm_at_cons (ok_iconst (n := 0) (by decide +kernel) (by decide)) <|
  mm_at_cons (ok_aload_n (k := 0) (by decide +kernel) rfl) <|
  mm_at_cons (ok_getr (ck := 6) (off := 1) (ci := 0) (k := 8) (idx := 18) rfl ct_in0 (by decide) ww_22 rfl rfl (by decide +kernel)) <|
  mm_at_cons (ok_iconst (n := 0) (by decide +kernel) (by decide)) <|
  mm_at_cons (ok_iconst (n := 4) (by decide +kernel) (by decide)) <|
  mm_at_cons (ok_copy (idx := 63) (t9 := 0) (by decide) rfl rfl ww_23 ww_24 ww_25 ww_26 mm_rmR (by decide +kernel)) <|
  mm_at_cons (ok_aload_n (k := 1) (by decide +kernel) rfl) <|
  mm_at_cons (ok_getr (ck := 7) (off := 2) (ci := 0) (k := 9) (idx := 22) rfl ct_in0 (by decide) ww_12 rfl rfl (by decide +kernel)) <|
  mm_at_cons (ok_iconst (n := 0) (by decide +kernel) (by decide)) <|
  mm_at_cons (ok_aload_n (k := 0) (by decide +kernel) rfl) <|
  mm_at_cons (ok_getr (ck := 7) (off := 2) (ci := 0) (k := 9) (idx := 22) rfl ct_in0 (by decide) ww_12 rfl rfl (by decide +kernel)) <|
  mm_at_cons (ok_iconst (n := 0) (by decide +kernel) (by decide)) <|
  mm_at_cons (ok_bipush (n := 8) (by decide +kernel) (by decide)) <|
  mm_at_cons (ok_copy (idx := 63) (t9 := 0) (by decide) rfl rfl ww_23 ww_24 ww_25 ww_26 mm_rmR (by decide +kernel)) <|
  mm_at_nil
theorem ro_Cr_copyOf : mm_RtOk prog_2_method_7_code (none) rt_Cr_copyOf :=
  mm_rt_cons (Or.inl ⟨rfl, rfl, by decide +kernel⟩) <|
  mm_rt_nil
set_option maxRecDepth 100000 in
set_option maxHeartbeats 4000000 in
theorem po_Jb_copyOf (hS : mm_Sound ct_GW ct_NW D ct_cl (ct_tys cA) ad cA ct_K ct_kd ct_N l ct_T (mm_rm d) S) : ∀ pc f, mm_at pg_Jb_copyOf pc = some f → mm_Ok ct_GW ct_NW D ct_cl (ct_tys cA) ad cA ct_K ct_kd ct_N l (mm_rm (d + 1)) "CraneTurns$Job" prog_3_method_2_code 2 S pc f :=
  mm_at_cons (ok_aload_n (k := 0) (by decide +kernel) rfl) <|
  mm_at_cons (ok_aload_n (k := 1) (by decide +kernel) rfl) <|
  mm_at_cons (ok_getf (ci := 1) (k := 0) (idx := 21) rfl ct_in1 (by decide) ww_27 rfl rfl (by decide +kernel)) <|
  mm_at_cons (ok_putf (ci := 1) (k := 0) (idx := 21) rfl ct_in1 (by decide) ww_27 rfl ct_ty1 ct_tyok1 ct_nm1 rfl (by decide +kernel) rfl (by decide +kernel)) <|
  mm_at_cons (ok_aload_n (k := 0) (by decide +kernel) rfl) <|
  mm_at_cons (ok_aload_n (k := 1) (by decide +kernel) rfl) <|
  mm_at_cons (ok_getf (ci := 1) (k := 1) (idx := 24) rfl ct_in1 (by decide) ww_28 rfl rfl (by decide +kernel)) <|
  mm_at_cons (ok_putf (ci := 1) (k := 1) (idx := 24) rfl ct_in1 (by decide) ww_28 rfl ct_ty1 ct_tyok1 ct_nm1 rfl (by decide +kernel) rfl (by decide +kernel)) <|
  mm_at_cons (ok_aload_n (k := 0) (by decide +kernel) rfl) <|
  mm_at_cons (ok_aload_n (k := 1) (by decide +kernel) rfl) <|
  mm_at_cons (ok_getf (ci := 1) (k := 2) (idx := 27) rfl ct_in1 (by decide) ww_29 rfl rfl (by decide +kernel)) <|
  mm_at_cons (ok_putf (ci := 1) (k := 2) (idx := 27) rfl ct_in1 (by decide) ww_29 rfl ct_ty1 ct_tyok1 ct_nm1 rfl (by decide +kernel) rfl (by decide +kernel)) <|
  mm_at_cons (ok_aload_n (k := 0) (by decide +kernel) rfl) <|
  mm_at_cons (ok_aload_n (k := 1) (by decide +kernel) rfl) <|
  mm_at_cons (ok_getf (ci := 1) (k := 3) (idx := 9) rfl ct_in1 (by decide) ww_30 rfl rfl (by decide +kernel)) <|
  mm_at_cons (ok_putf (ci := 1) (k := 3) (idx := 9) rfl ct_in1 (by decide) ww_30 rfl ct_ty1 ct_tyok1 ct_nm1 rfl (by decide +kernel) rfl (by decide +kernel)) <|
  mm_at_cons (ok_aload_n (k := 0) (by decide +kernel) rfl) <|
  mm_at_cons (ok_aload_n (k := 1) (by decide +kernel) rfl) <|
  mm_at_cons (ok_getf (ci := 1) (k := 4) (idx := 15) rfl ct_in1 (by decide) ww_31 rfl rfl (by decide +kernel)) <|
  mm_at_cons (ok_putf (ci := 1) (k := 4) (idx := 15) rfl ct_in1 (by decide) ww_31 rfl ct_ty1 ct_tyok1 ct_nm1 rfl (by decide +kernel) rfl (by decide +kernel)) <|
  mm_at_cons (ok_aload_n (k := 0) (by decide +kernel) rfl) <|
  mm_at_cons (ok_aload_n (k := 1) (by decide +kernel) rfl) <|
  mm_at_cons (ok_getf (ci := 1) (k := 5) (idx := 18) rfl ct_in1 (by decide) ww_32 rfl rfl (by decide +kernel)) <|
  mm_at_cons (ok_putf (ci := 1) (k := 5) (idx := 18) rfl ct_in1 (by decide) ww_32 rfl ct_ty1 ct_tyok1 ct_nm1 rfl (by decide +kernel) rfl (by decide +kernel)) <|
  mm_at_nil
theorem ro_Jb_copyOf : mm_RtOk prog_3_method_2_code (none) rt_Jb_copyOf :=
  mm_rt_cons (Or.inl ⟨rfl, rfl, by decide +kernel⟩) <|
  mm_rt_nil
set_option maxRecDepth 100000 in
set_option maxHeartbeats 4000000 in
theorem po_Pl_search (hS : mm_Sound ct_GW ct_NW D ct_cl (ct_tys cA) ad cA ct_K ct_kd ct_N l ct_T (mm_rm d) S) : ∀ pc f, mm_at pg_Pl_search pc = some f → mm_Ok ct_GW ct_NW D ct_cl (ct_tys cA) ad cA ct_K ct_kd ct_N l (mm_rm (d + 1)) "CraneTurns$Planner" prog_4_method_2_code 3 S pc f :=
  mm_at_cons (ok_aload_n (k := 0) (by decide +kernel) rfl) <|
  mm_at_cons (ok_aload_n (k := 1) (by decide +kernel) rfl) <|
  mm_at_cons (ok_callV (z := 20) (ci := 3) (idx := 32) rfl hS ⟨rfl, rfl⟩ (mm_rmok (by decide)) rfl ct_good ww_33 (mm_4 ww_35 ww_36 ww_34 ww_37) (by decide +kernel) (by decide +kernel)) <|
  mm_at_cons (ok_iconst (n := 4) (by decide +kernel) (by decide)) <|
  mm_at_cons (ok_min (idx := 36) ww_38 ww_39 ww_40 ww_41 mm_rmR (by decide +kernel)) <|
  mm_at_cons (ok_putf (ci := 2) (k := 5) (idx := 42) rfl ct_in2 (by decide) ww_42 rfl ct_ty2 ct_tyok2 ct_nm2 rfl (by decide +kernel) rfl (by decide +kernel)) <|
  mm_at_cons (ok_aload_n (k := 0) (by decide +kernel) rfl) <|
  mm_at_cons (ok_iconst (n := 0) (by decide +kernel) (by decide)) <|
  mm_at_cons (ok_putf (ci := 2) (k := 6) (idx := 46) rfl ct_in2 (by decide) ww_43 rfl ct_ty2 ct_tyok2 ct_nm2 rfl (by decide +kernel) rfl (by decide +kernel)) <|
  mm_at_cons (ok_aload_n (k := 0) (by decide +kernel) rfl) <|
  mm_at_cons (ok_iconst (n := (-1)) (by decide +kernel) (by decide)) <|
  mm_at_cons (ok_putf (ci := 2) (k := 7) (idx := 49) rfl ct_in2 (by decide) ww_44 rfl ct_ty2 ct_tyok2 ct_nm2 rfl (by decide +kernel) rfl (by decide +kernel)) <|
  mm_at_cons (ok_aload_n (k := 0) (by decide +kernel) rfl) <|
  mm_at_cons (ok_iload_n (k := 2) (by decide +kernel) rfl) <|
  mm_at_cons (ok_putf (ci := 2) (k := 8) (idx := 52) rfl ct_in2 (by decide) ww_45 rfl ct_ty2 ct_tyok2 ct_nm2 rfl (by decide +kernel) rfl (by decide +kernel)) <|
  mm_at_cons (ok_aload_n (k := 0) (by decide +kernel) rfl) <|
  mm_at_cons (ok_aload_n (k := 1) (by decide +kernel) rfl) <|
  mm_at_cons (ok_iconst (n := 0) (by decide +kernel) (by decide)) <|
  mm_at_cons (ok_callV (z := 11) (ci := 2) (idx := 55) rfl hS ⟨rfl, rfl⟩ (mm_rmok (by decide)) rfl ct_good ww_46 (mm_4 ww_47 ww_48 sel_11 ww_49) (by decide +kernel) (by decide +kernel)) <|
  mm_at_cons (ok_aload_n (k := 0) (by decide +kernel) rfl) <|
  mm_at_cons (ok_getf (ci := 2) (k := 7) (idx := 49) rfl ct_in2 (by decide) ww_44 rfl rfl (by decide +kernel)) <|
  mm_at_nil
theorem ro_Pl_search : mm_RtOk prog_4_method_2_code (some .int) rt_Pl_search :=
  mm_rt_cons (Or.inr (Or.inl ⟨rfl, rfl, by decide +kernel⟩)) <|
  mm_rt_nil
set_option maxRecDepth 100000 in
set_option maxHeartbeats 4000000 in
theorem po_Pl_bestGiving (hS : mm_Sound ct_GW ct_NW D ct_cl (ct_tys cA) ad cA ct_K ct_kd ct_N l ct_T (mm_rm d) S) : ∀ pc f, mm_at pg_Pl_bestGiving pc = some f → mm_Ok ct_GW ct_NW D ct_cl (ct_tys cA) ad cA ct_K ct_kd ct_N l (mm_rm (d + 1)) "CraneTurns$Planner" prog_4_method_3_code 2 S pc f :=
  mm_at_cons (ok_iload_n (k := 1) (by decide +kernel) rfl) <|
  mm_at_cons (ok_iconst (n := 0) (by decide +kernel) (by decide)) <|
  mm_at_cons (ok_aload_n (k := 0) (by decide +kernel) rfl) <|
  mm_at_cons (ok_getf (ci := 2) (k := 6) (idx := 46) rfl ct_in2 (by decide) ww_43 rfl rfl (by decide +kernel)) <|
  mm_at_cons (ok_iconst (n := 1) (by decide +kernel) (by decide)) <|
  mm_at_cons (ok_isub (by decide +kernel)) <|
  mm_at_cons (ok_callN (z := 1) (idx := 59) (host := "CraneTurns") hS ⟨rfl, rfl⟩ (mm_rmok (by decide)) ct_good ww_6 (mm_2 ww_7 ww_8) (by decide +kernel) (by decide +kernel) (by decide +kernel)) <|
  mm_at_cons (ok_if_eq (off := 12) (by decide +kernel) (by decide)) <|
  mm_at_cons (ok_aload_n (k := 0) (by decide +kernel) rfl) <|
  mm_at_cons (ok_getr (ck := 6) (off := 4) (ci := 2) (k := 4) (idx := 29) rfl ct_in2 (by decide) ww_50 rfl rfl (by decide +kernel)) <|
  mm_at_cons (ok_iload_n (k := 1) (by decide +kernel) rfl) <|
  mm_at_cons (ok_iald (t9 := 0) (by decide) rfl rfl (by decide +kernel)) <|
  mm_at_cons (ok_goto (off := 4) (by decide +kernel) (by decide)) <|
  mm_at_cons (ok_iconst (n := (-1)) (by decide +kernel) (by decide)) <|
  mm_at_nil
theorem ro_Pl_bestGiving : mm_RtOk prog_4_method_3_code (some .int) rt_Pl_bestGiving :=
  mm_rt_cons (Or.inr (Or.inl ⟨rfl, rfl, by decide +kernel⟩)) <|
  mm_rt_nil
set_option maxRecDepth 100000 in
set_option maxHeartbeats 4000000 in
theorem po_Pl_extendWay (hS : mm_Sound ct_GW ct_NW D ct_cl (ct_tys cA) ad cA ct_K ct_kd ct_N l ct_T (mm_rm d) S) : ∀ pc f, mm_at pg_Pl_extendWay pc = some f → mm_Ok ct_GW ct_NW D ct_cl (ct_tys cA) ad cA ct_K ct_kd ct_N l (mm_rm (d + 1)) "CraneTurns$Planner" prog_4_method_4_code 5 S pc f :=
  mm_at_cons (ok_iload_n (k := 2) (by decide +kernel) rfl) <|
  mm_at_cons (ok_aload_n (k := 0) (by decide +kernel) rfl) <|
  mm_at_cons (ok_getf (ci := 2) (k := 5) (idx := 42) rfl ct_in2 (by decide) ww_42 rfl rfl (by decide +kernel)) <|
  mm_at_cons (ok_icmp_lt (off := 9) (by decide +kernel) (by decide)) <|
  mm_at_cons (ok_aload_n (k := 0) (by decide +kernel) rfl) <|
  mm_at_cons (ok_aload_n (k := 1) (by decide +kernel) rfl) <|
  mm_at_cons (ok_callV (z := 13) (ci := 2) (idx := 63) rfl hS ⟨rfl, rfl⟩ (mm_rmok (by decide)) rfl ct_good ww_51 (mm_4 ww_52 ww_53 sel_13 ww_49) (by decide +kernel) (by decide +kernel)) <|
  mm_at_cons (ok_iconst (n := 0) (by decide +kernel) (by decide)) <|
  mm_at_cons (ok_istore_n (k := 3) (by decide +kernel) rfl) <|
  mm_at_cons (ok_iload_n (k := 3) (by decide +kernel) rfl) <|
  mm_at_cons (ok_aload_n (k := 1) (by decide +kernel) rfl) <|
  mm_at_cons (ok_getf (ci := 3) (k := 6) (idx := 67) rfl ct_in3 (by decide) ww_54 rfl rfl (by decide +kernel)) <|
  mm_at_cons (ok_icmp_ge (off := 118) (by decide +kernel) (by decide)) <|
  mm_at_cons (ok_aload_n (k := 1) (by decide +kernel) rfl) <|
  mm_at_cons (ok_getr (ck := 11) (off := 2) (ci := 3) (k := 10) (idx := 70) rfl ct_in3 (by decide) ww_55 rfl rfl (by decide +kernel)) <|
  mm_at_cons (ok_iload_n (k := 3) (by decide +kernel) rfl) <|
  mm_at_cons (ok_aald (t9 := 3) (C := "CraneTurns$Job") (by decide) rfl rfl (by decide +kernel)) <|
  mm_at_cons (ok_getf (ci := 1) (k := 3) (idx := 74) rfl ct_in1 (by decide) ww_56 rfl rfl (by decide +kernel)) <|
  mm_at_cons (ok_if_ne (off := 100) (by decide +kernel) (by decide)) <|
  mm_at_cons (ok_aload_n (k := 0) (by decide +kernel) rfl) <|
  mm_at_cons (ok_getr (ck := 8) (off := 1) (ci := 2) (k := 1) (idx := 18) rfl ct_in2 (by decide) ww_57 rfl rfl (by decide +kernel)) <|
  mm_at_cons (ok_iload_n (k := 3) (by decide +kernel) rfl) <|
  mm_at_cons (ok_zald (t9 := 1) (by decide) rfl rfl (by decide +kernel)) <|
  mm_at_cons (ok_if_eq (off := 6) (by decide +kernel) (by decide)) <|
  mm_at_cons (ok_goto (off := 88) (by decide +kernel) (by decide)) <|
  mm_at_cons (ok_aload_n (k := 0) (by decide +kernel) rfl) <|
  mm_at_cons (ok_getr (ck := 8) (off := 1) (ci := 2) (k := 1) (idx := 18) rfl ct_in2 (by decide) ww_57 rfl rfl (by decide +kernel)) <|
  mm_at_cons (ok_iload_n (k := 3) (by decide +kernel) rfl) <|
  mm_at_cons (ok_iconst (n := 1) (by decide +kernel) (by decide)) <|
  mm_at_cons (ok_zast (t9 := 1) (by decide) rfl rfl (by decide +kernel)) <|
  mm_at_cons (ok_iconst (n := 0) (by decide +kernel) (by decide)) <|
  mm_at_cons (ok_istore (by decide +kernel)) <|
  mm_at_cons (ok_iload (by decide +kernel)) <|
  mm_at_cons (ok_aload_n (k := 1) (by decide +kernel) rfl) <|
  mm_at_cons (ok_getf (ci := 3) (k := 0) (idx := 79) rfl ct_in3 (by decide) ww_58 rfl rfl (by decide +kernel)) <|
  mm_at_cons (ok_icmp_ge (off := 62) (by decide +kernel) (by decide)) <|
  mm_at_cons (ok_aload_n (k := 1) (by decide +kernel) rfl) <|
  mm_at_cons (ok_getr (ck := 10) (off := 1) (ci := 3) (k := 9) (idx := 82) rfl ct_in3 (by decide) ww_59 rfl rfl (by decide +kernel)) <|
  mm_at_cons (ok_iload (by decide +kernel)) <|
  mm_at_cons (ok_aald (t9 := 2) (C := "CraneTurns$Crane") (by decide) rfl rfl (by decide +kernel)) <|
  mm_at_cons (ok_aload_n (k := 1) (by decide +kernel) rfl) <|
  mm_at_cons (ok_getr (ck := 11) (off := 2) (ci := 3) (k := 10) (idx := 70) rfl ct_in3 (by decide) ww_55 rfl rfl (by decide +kernel)) <|
  mm_at_cons (ok_iload_n (k := 3) (by decide +kernel) rfl) <|
  mm_at_cons (ok_aald (t9 := 3) (C := "CraneTurns$Job") (by decide) rfl rfl (by decide +kernel)) <|
  mm_at_cons (ok_callV (z := 3) (ci := 0) (idx := 86) rfl hS ⟨rfl, rfl⟩ (mm_rmok (by decide)) rfl ct_good ww_60 (mm_4 ww_62 ww_63 ww_61 ww_17) (by decide +kernel) (by decide +kernel)) <|
  mm_at_cons (ok_if_eq (off := 37) (by decide +kernel) (by decide)) <|
  mm_at_cons (ok_aload_n (k := 0) (by decide +kernel) rfl) <|
  mm_at_cons (ok_iload_n (k := 2) (by decide +kernel) rfl) <|
  mm_at_cons (ok_iload_n (k := 3) (by decide +kernel) rfl) <|
  mm_at_cons (ok_iload (by decide +kernel)) <|
  mm_at_cons (ok_callV (z := 12) (ci := 2) (idx := 92) rfl hS ⟨rfl, rfl⟩ (mm_rmok (by decide)) rfl ct_good ww_64 (mm_4 ww_65 ww_66 sel_12 ww_49) (by decide +kernel) (by decide +kernel)) <|
  mm_at_cons (ok_if_ne (off := 26) (by decide +kernel) (by decide)) <|
  mm_at_cons (ok_aload_n (k := 0) (by decide +kernel) rfl) <|
  mm_at_cons (ok_getr (ck := 6) (off := 2) (ci := 2) (k := 2) (idx := 22) rfl ct_in2 (by decide) ww_67 rfl rfl (by decide +kernel)) <|
  mm_at_cons (ok_iload_n (k := 2) (by decide +kernel) rfl) <|
  mm_at_cons (ok_iload_n (k := 3) (by decide +kernel) rfl) <|
  mm_at_cons (ok_iast (t9 := 0) (by decide) rfl rfl (by decide +kernel)) <|
  mm_at_cons (ok_aload_n (k := 0) (by decide +kernel) rfl) <|
  mm_at_cons (ok_getr (ck := 6) (off := 3) (ci := 2) (k := 3) (idx := 26) rfl ct_in2 (by decide) ww_68 rfl rfl (by decide +kernel)) <|
  mm_at_cons (ok_iload_n (k := 2) (by decide +kernel) rfl) <|
  mm_at_cons (ok_iload (by decide +kernel)) <|
  mm_at_cons (ok_iast (t9 := 0) (by decide) rfl rfl (by decide +kernel)) <|
  mm_at_cons (ok_aload_n (k := 0) (by decide +kernel) rfl) <|
  mm_at_cons (ok_aload_n (k := 1) (by decide +kernel) rfl) <|
  mm_at_cons (ok_iload_n (k := 2) (by decide +kernel) rfl) <|
  mm_at_cons (ok_iconst (n := 1) (by decide +kernel) (by decide)) <|
  mm_at_cons (ok_iadd (by decide +kernel)) <|
  mm_at_cons (ok_callV (z := 11) (ci := 2) (idx := 55) rfl hS ⟨rfl, rfl⟩ (mm_rmok (by decide)) rfl ct_good ww_46 (mm_4 ww_47 ww_48 sel_11 ww_49) (by decide +kernel) (by decide +kernel)) <|
  mm_at_cons (ok_iinc (n := 1) (by decide +kernel) (by decide)) <|
  mm_at_cons (ok_goto (off := (-65)) (by decide +kernel) (by decide)) <|
  mm_at_cons (ok_aload_n (k := 0) (by decide +kernel) rfl) <|
  mm_at_cons (ok_getr (ck := 8) (off := 1) (ci := 2) (k := 1) (idx := 18) rfl ct_in2 (by decide) ww_57 rfl rfl (by decide +kernel)) <|
  mm_at_cons (ok_iload_n (k := 3) (by decide +kernel) rfl) <|
  mm_at_cons (ok_iconst (n := 0) (by decide +kernel) (by decide)) <|
  mm_at_cons (ok_zast (t9 := 1) (by decide) rfl rfl (by decide +kernel)) <|
  mm_at_cons (ok_iinc (n := 1) (by decide +kernel) (by decide)) <|
  mm_at_cons (ok_goto (off := (-120)) (by decide +kernel) (by decide)) <|
  mm_at_nil
theorem ro_Pl_extendWay : mm_RtOk prog_4_method_4_code (none) rt_Pl_extendWay :=
  mm_rt_cons (Or.inl ⟨rfl, rfl, by decide +kernel⟩) <|
  mm_rt_cons (Or.inl ⟨rfl, rfl, by decide +kernel⟩) <|
  mm_rt_nil
set_option maxRecDepth 100000 in
set_option maxHeartbeats 4000000 in
theorem po_Pl_isTriedAlready (hS : mm_Sound ct_GW ct_NW D ct_cl (ct_tys cA) ad cA ct_K ct_kd ct_N l ct_T (mm_rm d) S) : ∀ pc f, mm_at pg_Pl_isTriedAlready pc = some f → mm_Ok ct_GW ct_NW D ct_cl (ct_tys cA) ad cA ct_K ct_kd ct_N l (mm_rm (d + 1)) "CraneTurns$Planner" prog_4_method_5_code 4 S pc f :=
  mm_at_cons (ok_iload_n (k := 1) (by decide +kernel) rfl) <|
  mm_at_cons (ok_if_le (off := 31) (by decide +kernel) (by decide)) <|
  mm_at_cons (ok_aload_n (k := 0) (by decide +kernel) rfl) <|
  mm_at_cons (ok_getr (ck := 6) (off := 3) (ci := 2) (k := 3) (idx := 26) rfl ct_in2 (by decide) ww_68 rfl rfl (by decide +kernel)) <|
  mm_at_cons (ok_iload_n (k := 1) (by decide +kernel) rfl) <|
  mm_at_cons (ok_iconst (n := 1) (by decide +kernel) (by decide)) <|
  mm_at_cons (ok_isub (by decide +kernel)) <|
  mm_at_cons (ok_iald (t9 := 0) (by decide) rfl rfl (by decide +kernel)) <|
  mm_at_cons (ok_iload_n (k := 3) (by decide +kernel) rfl) <|
  mm_at_cons (ok_icmp_eq (off := 19) (by decide +kernel) (by decide)) <|
  mm_at_cons (ok_aload_n (k := 0) (by decide +kernel) rfl) <|
  mm_at_cons (ok_getr (ck := 6) (off := 2) (ci := 2) (k := 2) (idx := 22) rfl ct_in2 (by decide) ww_67 rfl rfl (by decide +kernel)) <|
  mm_at_cons (ok_iload_n (k := 1) (by decide +kernel) rfl) <|
  mm_at_cons (ok_iconst (n := 1) (by decide +kernel) (by decide)) <|
  mm_at_cons (ok_isub (by decide +kernel)) <|
  mm_at_cons (ok_iald (t9 := 0) (by decide) rfl rfl (by decide +kernel)) <|
  mm_at_cons (ok_iload_n (k := 2) (by decide +kernel) rfl) <|
  mm_at_cons (ok_icmp_le (off := 7) (by decide +kernel) (by decide)) <|
  mm_at_cons (ok_iconst (n := 1) (by decide +kernel) (by decide)) <|
  mm_at_cons (ok_goto (off := 4) (by decide +kernel) (by decide)) <|
  mm_at_cons (ok_iconst (n := 0) (by decide +kernel) (by decide)) <|
  mm_at_nil
theorem ro_Pl_isTriedAlready : mm_RtOk prog_4_method_5_code (some .boolean) rt_Pl_isTriedAlready :=
  mm_rt_cons (Or.inr (Or.inr ⟨rfl, rfl, by decide +kernel⟩)) <|
  mm_rt_nil
set_option maxRecDepth 100000 in
set_option maxHeartbeats 4000000 in
theorem po_Pl_tryWay (hS : mm_Sound ct_GW ct_NW D ct_cl (ct_tys cA) ad cA ct_K ct_kd ct_N l ct_T (mm_rm d) S) : ∀ pc f, mm_at pg_Pl_tryWay pc = some f → mm_Ok ct_GW ct_NW D ct_cl (ct_tys cA) ad cA ct_K ct_kd ct_N l (mm_rm (d + 1)) "CraneTurns$Planner" prog_4_method_6_code 3 S pc f :=
  mm_at_cons (ok_aload_n (k := 0) (by decide +kernel) rfl) <|
  mm_at_cons (ok_getr (ck := 3) (off := 15) (ci := 2) (k := 0) (idx := 12) rfl ct_in2 (by decide) ww_69 rfl rfl (by decide +kernel)) <|
  mm_at_cons (ok_aload_n (k := 1) (by decide +kernel) rfl) <|
  mm_at_cons (ok_callV (z := 32) (ci := 3) (idx := 95) rfl hS ⟨rfl, rfl⟩ (mm_rmok (by decide)) rfl ct_good ww_70 (mm_4 ww_72 ww_73 ww_71 ww_37) (by decide +kernel) (by decide +kernel)) <|
  mm_at_cons (ok_iconst (n := 0) (by decide +kernel) (by decide)) <|
  mm_at_cons (ok_istore_n (k := 2) (by decide +kernel) rfl) <|
  mm_at_cons (ok_iload_n (k := 2) (by decide +kernel) rfl) <|
  mm_at_cons (ok_aload_n (k := 0) (by decide +kernel) rfl) <|
  mm_at_cons (ok_getf (ci := 2) (k := 5) (idx := 42) rfl ct_in2 (by decide) ww_42 rfl rfl (by decide +kernel)) <|
  mm_at_cons (ok_icmp_ge (off := 28) (by decide +kernel) (by decide)) <|
  mm_at_cons (ok_aload_n (k := 0) (by decide +kernel) rfl) <|
  mm_at_cons (ok_getr (ck := 3) (off := 15) (ci := 2) (k := 0) (idx := 12) rfl ct_in2 (by decide) ww_69 rfl rfl (by decide +kernel)) <|
  mm_at_cons (ok_aload_n (k := 0) (by decide +kernel) rfl) <|
  mm_at_cons (ok_getr (ck := 6) (off := 2) (ci := 2) (k := 2) (idx := 22) rfl ct_in2 (by decide) ww_67 rfl rfl (by decide +kernel)) <|
  mm_at_cons (ok_iload_n (k := 2) (by decide +kernel) rfl) <|
  mm_at_cons (ok_iald (t9 := 0) (by decide) rfl rfl (by decide +kernel)) <|
  mm_at_cons (ok_aload_n (k := 0) (by decide +kernel) rfl) <|
  mm_at_cons (ok_getr (ck := 6) (off := 3) (ci := 2) (k := 3) (idx := 26) rfl ct_in2 (by decide) ww_68 rfl rfl (by decide +kernel)) <|
  mm_at_cons (ok_iload_n (k := 2) (by decide +kernel) rfl) <|
  mm_at_cons (ok_iald (t9 := 0) (by decide) rfl rfl (by decide +kernel)) <|
  mm_at_cons (ok_callV (z := 18) (ci := 3) (idx := 98) rfl hS ⟨rfl, rfl⟩ (mm_rmok (by decide)) rfl ct_good ww_74 (mm_4 ww_76 ww_77 ww_75 ww_37) (by decide +kernel) (by decide +kernel)) <|
  mm_at_cons (ok_iinc (n := 1) (by decide +kernel) (by decide)) <|
  mm_at_cons (ok_goto (off := (-30)) (by decide +kernel) (by decide)) <|
  mm_at_cons (ok_iconst (n := 0) (by decide +kernel) (by decide)) <|
  mm_at_cons (ok_istore_n (k := 2) (by decide +kernel) rfl) <|
  mm_at_cons (ok_aload_n (k := 0) (by decide +kernel) rfl) <|
  mm_at_cons (ok_getr (ck := 3) (off := 15) (ci := 2) (k := 0) (idx := 12) rfl ct_in2 (by decide) ww_69 rfl rfl (by decide +kernel)) <|
  mm_at_cons (ok_getf (ci := 3) (k := 7) (idx := 102) rfl ct_in3 (by decide) ww_78 rfl rfl (by decide +kernel)) <|
  mm_at_cons (ok_if_le (off := 24) (by decide +kernel) (by decide)) <|
  mm_at_cons (ok_iload_n (k := 2) (by decide +kernel) rfl) <|
  mm_at_cons (ok_aload_n (k := 0) (by decide +kernel) rfl) <|
  mm_at_cons (ok_getf (ci := 2) (k := 8) (idx := 52) rfl ct_in2 (by decide) ww_45 rfl rfl (by decide +kernel)) <|
  mm_at_cons (ok_icmp_ge (off := 16) (by decide +kernel) (by decide)) <|
  mm_at_cons (ok_aload_n (k := 0) (by decide +kernel) rfl) <|
  mm_at_cons (ok_getr (ck := 3) (off := 15) (ci := 2) (k := 0) (idx := 12) rfl ct_in2 (by decide) ww_69 rfl rfl (by decide +kernel)) <|
  mm_at_cons (ok_callV (z := 24) (ci := 3) (idx := 105) rfl hS ⟨rfl, rfl⟩ (mm_rmok (by decide)) rfl ct_good ww_79 (mm_4 ww_81 ww_82 ww_80 ww_37) (by decide +kernel) (by decide +kernel)) <|
  mm_at_cons (ok_iinc (n := 1) (by decide +kernel) (by decide)) <|
  mm_at_cons (ok_goto (off := (-28)) (by decide +kernel) (by decide)) <|
  mm_at_cons (ok_aload_n (k := 0) (by decide +kernel) rfl) <|
  mm_at_cons (ok_getr (ck := 3) (off := 15) (ci := 2) (k := 0) (idx := 12) rfl ct_in2 (by decide) ww_69 rfl rfl (by decide +kernel)) <|
  mm_at_cons (ok_getf (ci := 3) (k := 7) (idx := 102) rfl ct_in3 (by decide) ww_78 rfl rfl (by decide +kernel)) <|
  mm_at_cons (ok_if_ne (off := 16) (by decide +kernel) (by decide)) <|
  mm_at_cons (ok_iload_n (k := 2) (by decide +kernel) rfl) <|
  mm_at_cons (ok_aload_n (k := 0) (by decide +kernel) rfl) <|
  mm_at_cons (ok_getf (ci := 2) (k := 8) (idx := 52) rfl ct_in2 (by decide) ww_45 rfl rfl (by decide +kernel)) <|
  mm_at_cons (ok_icmp_gt (off := 8) (by decide +kernel) (by decide)) <|
  mm_at_cons (ok_aload_n (k := 0) (by decide +kernel) rfl) <|
  mm_at_cons (ok_iload_n (k := 2) (by decide +kernel) rfl) <|
  mm_at_cons (ok_callV (z := 14) (ci := 2) (idx := 108) rfl hS ⟨rfl, rfl⟩ (mm_rmok (by decide)) rfl ct_good ww_83 (mm_4 ww_84 ww_85 sel_14 ww_49) (by decide +kernel) (by decide +kernel)) <|
  mm_at_nil
theorem ro_Pl_tryWay : mm_RtOk prog_4_method_6_code (none) rt_Pl_tryWay :=
  mm_rt_cons (Or.inl ⟨rfl, rfl, by decide +kernel⟩) <|
  mm_rt_nil
end
end
section
section
variable {D : va_G} {ad : Nat → Nat} {cA : Nat → ClassId} {l : Launch} {d : Nat} {S : mm_S}
set_option maxRecDepth 100000 in
set_option maxHeartbeats 4000000 in
theorem po_Pl_keepWay (hS : mm_Sound ct_GW ct_NW D ct_cl (ct_tys cA) ad cA ct_K ct_kd ct_N l ct_T (mm_rm d) S) : ∀ pc f, mm_at pg_Pl_keepWay pc = some f → mm_Ok ct_GW ct_NW D ct_cl (ct_tys cA) ad cA ct_K ct_kd ct_N l (mm_rm (d + 1)) "CraneTurns$Planner" prog_4_method_7_code 3 S pc f :=
  mm_at_cons (ok_aload_n (k := 0) (by decide +kernel) rfl) <|
  mm_at_cons (ok_iload_n (k := 1) (by decide +kernel) rfl) <|
  mm_at_cons (ok_putf (ci := 2) (k := 7) (idx := 49) rfl ct_in2 (by decide) ww_44 rfl ct_ty2 ct_tyok2 ct_nm2 rfl (by decide +kernel) rfl (by decide +kernel)) <|
  mm_at_cons (ok_aload_n (k := 0) (by decide +kernel) rfl) <|
  mm_at_cons (ok_iload_n (k := 1) (by decide +kernel) rfl) <|
  mm_at_cons (ok_iconst (n := 1) (by decide +kernel) (by decide)) <|
  mm_at_cons (ok_isub (by decide +kernel)) <|
  mm_at_cons (ok_putf (ci := 2) (k := 8) (idx := 52) rfl ct_in2 (by decide) ww_45 rfl ct_ty2 ct_tyok2 ct_nm2 rfl (by decide +kernel) rfl (by decide +kernel)) <|
  mm_at_cons (ok_aload_n (k := 0) (by decide +kernel) rfl) <|
  mm_at_cons (ok_aload_n (k := 0) (by decide +kernel) rfl) <|
  mm_at_cons (ok_getf (ci := 2) (k := 5) (idx := 42) rfl ct_in2 (by decide) ww_42 rfl rfl (by decide +kernel)) <|
  mm_at_cons (ok_putf (ci := 2) (k := 6) (idx := 46) rfl ct_in2 (by decide) ww_43 rfl ct_ty2 ct_tyok2 ct_nm2 rfl (by decide +kernel) rfl (by decide +kernel)) <|
  mm_at_cons (ok_iconst (n := 0) (by decide +kernel) (by decide)) <|
  mm_at_cons (ok_istore_n (k := 2) (by decide +kernel) rfl) <|
  mm_at_cons (ok_iload_n (k := 2) (by decide +kernel) rfl) <|
  mm_at_cons (ok_aload_n (k := 0) (by decide +kernel) rfl) <|
  mm_at_cons (ok_getf (ci := 2) (k := 5) (idx := 42) rfl ct_in2 (by decide) ww_42 rfl rfl (by decide +kernel)) <|
  mm_at_cons (ok_icmp_ge (off := 31) (by decide +kernel) (by decide)) <|
  mm_at_cons (ok_aload_n (k := 0) (by decide +kernel) rfl) <|
  mm_at_cons (ok_getr (ck := 6) (off := 4) (ci := 2) (k := 4) (idx := 29) rfl ct_in2 (by decide) ww_50 rfl rfl (by decide +kernel)) <|
  mm_at_cons (ok_iload_n (k := 2) (by decide +kernel) rfl) <|
  mm_at_cons (ok_bipush (n := 10) (by decide +kernel) (by decide)) <|
  mm_at_cons (ok_aload_n (k := 0) (by decide +kernel) rfl) <|
  mm_at_cons (ok_getr (ck := 6) (off := 2) (ci := 2) (k := 2) (idx := 22) rfl ct_in2 (by decide) ww_67 rfl rfl (by decide +kernel)) <|
  mm_at_cons (ok_iload_n (k := 2) (by decide +kernel) rfl) <|
  mm_at_cons (ok_iald (t9 := 0) (by decide) rfl rfl (by decide +kernel)) <|
  mm_at_cons (ok_imul (by decide +kernel)) <|
  mm_at_cons (ok_aload_n (k := 0) (by decide +kernel) rfl) <|
  mm_at_cons (ok_getr (ck := 6) (off := 3) (ci := 2) (k := 3) (idx := 26) rfl ct_in2 (by decide) ww_68 rfl rfl (by decide +kernel)) <|
  mm_at_cons (ok_iload_n (k := 2) (by decide +kernel) rfl) <|
  mm_at_cons (ok_iald (t9 := 0) (by decide) rfl rfl (by decide +kernel)) <|
  mm_at_cons (ok_iadd (by decide +kernel)) <|
  mm_at_cons (ok_iast (t9 := 0) (by decide) rfl rfl (by decide +kernel)) <|
  mm_at_cons (ok_iinc (n := 1) (by decide +kernel) (by decide)) <|
  mm_at_cons (ok_goto (off := (-33)) (by decide +kernel) (by decide)) <|
  mm_at_nil
theorem ro_Pl_keepWay : mm_RtOk prog_4_method_7_code (none) rt_Pl_keepWay :=
  mm_rt_cons (Or.inl ⟨rfl, rfl, by decide +kernel⟩) <|
  mm_rt_nil
set_option maxRecDepth 100000 in
set_option maxHeartbeats 4000000 in
theorem po_Yd_hasTrack (hS : mm_Sound ct_GW ct_NW D ct_cl (ct_tys cA) ad cA ct_K ct_kd ct_N l ct_T (mm_rm d) S) : ∀ pc f, mm_at pg_Yd_hasTrack pc = some f → mm_Ok ct_GW ct_NW D ct_cl (ct_tys cA) ad cA ct_K ct_kd ct_N l (mm_rm (d + 1)) "CraneTurns$Yard" prog_5_method_2_code 1 S pc f :=
  mm_at_cons (ok_aload_n (k := 0) (by decide +kernel) rfl) <|
  mm_at_cons (ok_getf (ci := 3) (k := 0) (idx := 29) rfl ct_in3 (by decide) ww_86 rfl rfl (by decide +kernel)) <|
  mm_at_cons (ok_if_le (off := 7) (by decide +kernel) (by decide)) <|
  mm_at_cons (ok_iconst (n := 1) (by decide +kernel) (by decide)) <|
  mm_at_cons (ok_goto (off := 4) (by decide +kernel) (by decide)) <|
  mm_at_cons (ok_iconst (n := 0) (by decide +kernel) (by decide)) <|
  mm_at_nil
theorem ro_Yd_hasTrack : mm_RtOk prog_5_method_2_code (some .boolean) rt_Yd_hasTrack :=
  mm_rt_cons (Or.inr (Or.inr ⟨rfl, rfl, by decide +kernel⟩)) <|
  mm_rt_nil
set_option maxRecDepth 100000 in
set_option maxHeartbeats 4000000 in
theorem po_Yd_lay (hS : mm_Sound ct_GW ct_NW D ct_cl (ct_tys cA) ad cA ct_K ct_kd ct_N l ct_T (mm_rm d) S) : ∀ pc f, mm_at pg_Yd_lay pc = some f → mm_Ok ct_GW ct_NW D ct_cl (ct_tys cA) ad cA ct_K ct_kd ct_N l (mm_rm (d + 1)) "CraneTurns$Yard" prog_5_method_3_code 6 S pc f :=
  mm_at_cons (ok_aload_n (k := 0) (by decide +kernel) rfl) <|
  mm_at_cons (ok_iload_n (k := 1) (by decide +kernel) rfl) <|
  mm_at_cons (ok_putf (ci := 3) (k := 0) (idx := 29) rfl ct_in3 (by decide) ww_86 rfl ct_ty3 ct_tyok3 ct_nm3 rfl (by decide +kernel) rfl (by decide +kernel)) <|
  mm_at_cons (ok_aload_n (k := 0) (by decide +kernel) rfl) <|
  mm_at_cons (ok_iload_n (k := 2) (by decide +kernel) rfl) <|
  mm_at_cons (ok_putf (ci := 3) (k := 1) (idx := 32) rfl ct_in3 (by decide) ww_87 rfl ct_ty3 ct_tyok3 ct_nm3 rfl (by decide +kernel) rfl (by decide +kernel)) <|
  mm_at_cons (ok_aload_n (k := 0) (by decide +kernel) rfl) <|
  mm_at_cons (ok_iload_n (k := 3) (by decide +kernel) rfl) <|
  mm_at_cons (ok_putf (ci := 3) (k := 2) (idx := 35) rfl ct_in3 (by decide) ww_88 rfl ct_ty3 ct_tyok3 ct_nm3 rfl (by decide +kernel) rfl (by decide +kernel)) <|
  mm_at_cons (ok_aload_n (k := 0) (by decide +kernel) rfl) <|
  mm_at_cons (ok_iload (by decide +kernel)) <|
  mm_at_cons (ok_putf (ci := 3) (k := 3) (idx := 38) rfl ct_in3 (by decide) ww_89 rfl ct_ty3 ct_tyok3 ct_nm3 rfl (by decide +kernel) rfl (by decide +kernel)) <|
  mm_at_cons (ok_iconst (n := 0) (by decide +kernel) (by decide)) <|
  mm_at_cons (ok_istore (by decide +kernel)) <|
  mm_at_cons (ok_iload (by decide +kernel)) <|
  mm_at_cons (ok_aload_n (k := 0) (by decide +kernel) rfl) <|
  mm_at_cons (ok_getf (ci := 3) (k := 0) (idx := 29) rfl ct_in3 (by decide) ww_86 rfl rfl (by decide +kernel)) <|
  mm_at_cons (ok_icmp_ge (off := 30) (by decide +kernel) (by decide)) <|
  mm_at_cons (ok_aload_n (k := 0) (by decide +kernel) rfl) <|
  mm_at_cons (ok_getr (ck := 10) (off := 1) (ci := 3) (k := 9) (idx := 17) rfl ct_in3 (by decide) ww_90 rfl rfl (by decide +kernel)) <|
  mm_at_cons (ok_iload (by decide +kernel)) <|
  mm_at_cons (ok_aald (t9 := 2) (C := "CraneTurns$Crane") (by decide) rfl rfl (by decide +kernel)) <|
  mm_at_cons (ok_iload (by decide +kernel)) <|
  mm_at_cons (ok_aload_n (k := 0) (by decide +kernel) rfl) <|
  mm_at_cons (ok_getf (ci := 3) (k := 1) (idx := 32) rfl ct_in3 (by decide) ww_87 rfl rfl (by decide +kernel)) <|
  mm_at_cons (ok_imul (by decide +kernel)) <|
  mm_at_cons (ok_iconst (n := 0) (by decide +kernel) (by decide)) <|
  mm_at_cons (ok_sipush (n := 200) (by decide +kernel) (by decide)) <|
  mm_at_cons (ok_callV (z := 2) (ci := 0) (idx := 41) rfl hS ⟨rfl, rfl⟩ (mm_rmok (by decide)) rfl ct_good ww_13 (mm_4 ww_91 ww_16 ww_14 ww_17) (by decide +kernel) (by decide +kernel)) <|
  mm_at_cons (ok_iinc (n := 1) (by decide +kernel) (by decide)) <|
  mm_at_cons (ok_goto (off := (-33)) (by decide +kernel) (by decide)) <|
  mm_at_nil
theorem ro_Yd_lay : mm_RtOk prog_5_method_3_code (none) rt_Yd_lay :=
  mm_rt_cons (Or.inl ⟨rfl, rfl, by decide +kernel⟩) <|
  mm_rt_nil
set_option maxRecDepth 100000 in
set_option maxHeartbeats 4000000 in
theorem po_Yd_addJob (hS : mm_Sound ct_GW ct_NW D ct_cl (ct_tys cA) ad cA ct_K ct_kd ct_N l ct_T (mm_rm d) S) : ∀ pc f, mm_at pg_Yd_addJob pc = some f → mm_Ok ct_GW ct_NW D ct_cl (ct_tys cA) ad cA ct_K ct_kd ct_N l (mm_rm (d + 1)) "CraneTurns$Yard" prog_5_method_4_code 5 S pc f :=
  mm_at_cons (ok_aload_n (k := 0) (by decide +kernel) rfl) <|
  mm_at_cons (ok_getf (ci := 3) (k := 6) (idx := 45) rfl ct_in3 (by decide) ww_92 rfl rfl (by decide +kernel)) <|
  mm_at_cons (ok_istore (by decide +kernel)) <|
  mm_at_cons (ok_aload_n (k := 0) (by decide +kernel) rfl) <|
  mm_at_cons (ok_getr (ck := 11) (off := 2) (ci := 3) (k := 10) (idx := 23) rfl ct_in3 (by decide) ww_93 rfl rfl (by decide +kernel)) <|
  mm_at_cons (ok_iload (by decide +kernel)) <|
  mm_at_cons (ok_aald (t9 := 3) (C := "CraneTurns$Job") (by decide) rfl rfl (by decide +kernel)) <|
  mm_at_cons (ok_iload_n (k := 1) (by decide +kernel) rfl) <|
  mm_at_cons (ok_putf (ci := 1) (k := 0) (idx := 48) rfl ct_in1 (by decide) ww_94 rfl ct_ty1 ct_tyok1 ct_nm1 rfl (by decide +kernel) rfl (by decide +kernel)) <|
  mm_at_cons (ok_aload_n (k := 0) (by decide +kernel) rfl) <|
  mm_at_cons (ok_getr (ck := 11) (off := 2) (ci := 3) (k := 10) (idx := 23) rfl ct_in3 (by decide) ww_93 rfl rfl (by decide +kernel)) <|
  mm_at_cons (ok_iload (by decide +kernel)) <|
  mm_at_cons (ok_aald (t9 := 3) (C := "CraneTurns$Job") (by decide) rfl rfl (by decide +kernel)) <|
  mm_at_cons (ok_iload_n (k := 2) (by decide +kernel) rfl) <|
  mm_at_cons (ok_putf (ci := 1) (k := 1) (idx := 51) rfl ct_in1 (by decide) ww_95 rfl ct_ty1 ct_tyok1 ct_nm1 rfl (by decide +kernel) rfl (by decide +kernel)) <|
  mm_at_cons (ok_aload_n (k := 0) (by decide +kernel) rfl) <|
  mm_at_cons (ok_getr (ck := 11) (off := 2) (ci := 3) (k := 10) (idx := 23) rfl ct_in3 (by decide) ww_93 rfl rfl (by decide +kernel)) <|
  mm_at_cons (ok_iload (by decide +kernel)) <|
  mm_at_cons (ok_aald (t9 := 3) (C := "CraneTurns$Job") (by decide) rfl rfl (by decide +kernel)) <|
  mm_at_cons (ok_iload_n (k := 3) (by decide +kernel) rfl) <|
  mm_at_cons (ok_putf (ci := 1) (k := 2) (idx := 54) rfl ct_in1 (by decide) ww_96 rfl ct_ty1 ct_tyok1 ct_nm1 rfl (by decide +kernel) rfl (by decide +kernel)) <|
  mm_at_cons (ok_aload_n (k := 0) (by decide +kernel) rfl) <|
  mm_at_cons (ok_dup (by decide +kernel)) <|
  mm_at_cons (ok_getf (ci := 3) (k := 6) (idx := 45) rfl ct_in3 (by decide) ww_92 rfl rfl (by decide +kernel)) <|
  mm_at_cons (ok_iconst (n := 1) (by decide +kernel) (by decide)) <|
  mm_at_cons (ok_iadd (by decide +kernel)) <|
  mm_at_cons (ok_putf (ci := 3) (k := 6) (idx := 45) rfl ct_in3 (by decide) ww_92 rfl ct_ty3 ct_tyok3 ct_nm3 rfl (by decide +kernel) rfl (by decide +kernel)) <|
  mm_at_cons (ok_aload_n (k := 0) (by decide +kernel) rfl) <|
  mm_at_cons (ok_dup (by decide +kernel)) <|
  mm_at_cons (ok_getf (ci := 3) (k := 7) (idx := 57) rfl ct_in3 (by decide) ww_97 rfl rfl (by decide +kernel)) <|
  mm_at_cons (ok_iconst (n := 1) (by decide +kernel) (by decide)) <|
  mm_at_cons (ok_iadd (by decide +kernel)) <|
  mm_at_cons (ok_putf (ci := 3) (k := 7) (idx := 57) rfl ct_in3 (by decide) ww_97 rfl ct_ty3 ct_tyok3 ct_nm3 rfl (by decide +kernel) rfl (by decide +kernel)) <|
  mm_at_cons (ok_iload (by decide +kernel)) <|
  mm_at_nil
theorem ro_Yd_addJob : mm_RtOk prog_5_method_4_code (some .int) rt_Yd_addJob :=
  mm_rt_cons (Or.inr (Or.inl ⟨rfl, rfl, by decide +kernel⟩)) <|
  mm_rt_nil
set_option maxRecDepth 100000 in
set_option maxHeartbeats 4000000 in
theorem po_Yd_hand (hS : mm_Sound ct_GW ct_NW D ct_cl (ct_tys cA) ad cA ct_K ct_kd ct_N l ct_T (mm_rm d) S) : ∀ pc f, mm_at pg_Yd_hand pc = some f → mm_Ok ct_GW ct_NW D ct_cl (ct_tys cA) ad cA ct_K ct_kd ct_N l (mm_rm (d + 1)) "CraneTurns$Yard" prog_5_method_5_code 3 S pc f :=
  mm_at_cons (ok_aload_n (k := 0) (by decide +kernel) rfl) <|
  mm_at_cons (ok_getr (ck := 11) (off := 2) (ci := 3) (k := 10) (idx := 23) rfl ct_in3 (by decide) ww_93 rfl rfl (by decide +kernel)) <|
  mm_at_cons (ok_iload_n (k := 1) (by decide +kernel) rfl) <|
  mm_at_cons (ok_aald (t9 := 3) (C := "CraneTurns$Job") (by decide) rfl rfl (by decide +kernel)) <|
  mm_at_cons (ok_iconst (n := 1) (by decide +kernel) (by decide)) <|
  mm_at_cons (ok_putf (ci := 1) (k := 3) (idx := 60) rfl ct_in1 (by decide) ww_98 rfl ct_ty1 ct_tyok1 ct_nm1 rfl (by decide +kernel) rfl (by decide +kernel)) <|
  mm_at_cons (ok_aload_n (k := 0) (by decide +kernel) rfl) <|
  mm_at_cons (ok_getr (ck := 11) (off := 2) (ci := 3) (k := 10) (idx := 23) rfl ct_in3 (by decide) ww_93 rfl rfl (by decide +kernel)) <|
  mm_at_cons (ok_iload_n (k := 1) (by decide +kernel) rfl) <|
  mm_at_cons (ok_aald (t9 := 3) (C := "CraneTurns$Job") (by decide) rfl rfl (by decide +kernel)) <|
  mm_at_cons (ok_iload_n (k := 2) (by decide +kernel) rfl) <|
  mm_at_cons (ok_putf (ci := 1) (k := 4) (idx := 63) rfl ct_in1 (by decide) ww_99 rfl ct_ty1 ct_tyok1 ct_nm1 rfl (by decide +kernel) rfl (by decide +kernel)) <|
  mm_at_cons (ok_aload_n (k := 0) (by decide +kernel) rfl) <|
  mm_at_cons (ok_getr (ck := 10) (off := 1) (ci := 3) (k := 9) (idx := 17) rfl ct_in3 (by decide) ww_90 rfl rfl (by decide +kernel)) <|
  mm_at_cons (ok_iload_n (k := 2) (by decide +kernel) rfl) <|
  mm_at_cons (ok_aald (t9 := 2) (C := "CraneTurns$Crane") (by decide) rfl rfl (by decide +kernel)) <|
  mm_at_cons (ok_iload_n (k := 1) (by decide +kernel) rfl) <|
  mm_at_cons (ok_callV (z := 5) (ci := 0) (idx := 66) rfl hS ⟨rfl, rfl⟩ (mm_rmok (by decide)) rfl ct_good ww_100 (mm_4 ww_102 ww_103 ww_101 ww_17) (by decide +kernel) (by decide +kernel)) <|
  mm_at_cons (ok_aload_n (k := 0) (by decide +kernel) rfl) <|
  mm_at_cons (ok_iconst (n := 1) (by decide +kernel) (by decide)) <|
  mm_at_cons (ok_putz (ci := 3) (k := 8) (idx := 70) rfl ct_in3 (by decide) ww_104 rfl ct_ty3 ct_tyok3 ct_nm3 rfl (by decide +kernel) rfl (by decide +kernel)) <|
  mm_at_nil
theorem ro_Yd_hand : mm_RtOk prog_5_method_5_code (none) rt_Yd_hand :=
  mm_rt_cons (Or.inl ⟨rfl, rfl, by decide +kernel⟩) <|
  mm_rt_nil
set_option maxRecDepth 100000 in
set_option maxHeartbeats 4000000 in
theorem po_Yd_free (hS : mm_Sound ct_GW ct_NW D ct_cl (ct_tys cA) ad cA ct_K ct_kd ct_N l ct_T (mm_rm d) S) : ∀ pc f, mm_at pg_Yd_free pc = some f → mm_Ok ct_GW ct_NW D ct_cl (ct_tys cA) ad cA ct_K ct_kd ct_N l (mm_rm (d + 1)) "CraneTurns$Yard" prog_5_method_6_code 3 S pc f :=
  mm_at_cons (ok_aload_n (k := 0) (by decide +kernel) rfl) <|
  mm_at_cons (ok_getr (ck := 11) (off := 2) (ci := 3) (k := 10) (idx := 23) rfl ct_in3 (by decide) ww_93 rfl rfl (by decide +kernel)) <|
  mm_at_cons (ok_iload_n (k := 1) (by decide +kernel) rfl) <|
  mm_at_cons (ok_aald (t9 := 3) (C := "CraneTurns$Job") (by decide) rfl rfl (by decide +kernel)) <|
  mm_at_cons (ok_getf (ci := 1) (k := 4) (idx := 63) rfl ct_in1 (by decide) ww_99 rfl rfl (by decide +kernel)) <|
  mm_at_cons (ok_istore_n (k := 2) (by decide +kernel) rfl) <|
  mm_at_cons (ok_iload_n (k := 2) (by decide +kernel) rfl) <|
  mm_at_cons (ok_iconst (n := 0) (by decide +kernel) (by decide)) <|
  mm_at_cons (ok_aload_n (k := 0) (by decide +kernel) rfl) <|
  mm_at_cons (ok_getf (ci := 3) (k := 0) (idx := 29) rfl ct_in3 (by decide) ww_86 rfl rfl (by decide +kernel)) <|
  mm_at_cons (ok_iconst (n := 1) (by decide +kernel) (by decide)) <|
  mm_at_cons (ok_isub (by decide +kernel)) <|
  mm_at_cons (ok_callN (z := 1) (idx := 74) (host := "CraneTurns") hS ⟨rfl, rfl⟩ (mm_rmok (by decide)) ct_good ww_6 (mm_2 ww_7 ww_8) (by decide +kernel) (by decide +kernel) (by decide +kernel)) <|
  mm_at_cons (ok_if_eq (off := 13) (by decide +kernel) (by decide)) <|
  mm_at_cons (ok_aload_n (k := 0) (by decide +kernel) rfl) <|
  mm_at_cons (ok_getr (ck := 10) (off := 1) (ci := 3) (k := 9) (idx := 17) rfl ct_in3 (by decide) ww_90 rfl rfl (by decide +kernel)) <|
  mm_at_cons (ok_iload_n (k := 2) (by decide +kernel) rfl) <|
  mm_at_cons (ok_aald (t9 := 2) (C := "CraneTurns$Crane") (by decide) rfl rfl (by decide +kernel)) <|
  mm_at_cons (ok_iload_n (k := 1) (by decide +kernel) rfl) <|
  mm_at_cons (ok_callV (z := 6) (ci := 0) (idx := 78) rfl hS ⟨rfl, rfl⟩ (mm_rmok (by decide)) rfl ct_good ww_105 (mm_4 ww_107 ww_108 ww_106 ww_17) (by decide +kernel) (by decide +kernel)) <|
  mm_at_cons (ok_aload_n (k := 0) (by decide +kernel) rfl) <|
  mm_at_cons (ok_getr (ck := 11) (off := 2) (ci := 3) (k := 10) (idx := 23) rfl ct_in3 (by decide) ww_93 rfl rfl (by decide +kernel)) <|
  mm_at_cons (ok_iload_n (k := 1) (by decide +kernel) rfl) <|
  mm_at_cons (ok_aald (t9 := 3) (C := "CraneTurns$Job") (by decide) rfl rfl (by decide +kernel)) <|
  mm_at_cons (ok_iconst (n := 0) (by decide +kernel) (by decide)) <|
  mm_at_cons (ok_putf (ci := 1) (k := 3) (idx := 60) rfl ct_in1 (by decide) ww_98 rfl ct_ty1 ct_tyok1 ct_nm1 rfl (by decide +kernel) rfl (by decide +kernel)) <|
  mm_at_cons (ok_aload_n (k := 0) (by decide +kernel) rfl) <|
  mm_at_cons (ok_getr (ck := 11) (off := 2) (ci := 3) (k := 10) (idx := 23) rfl ct_in3 (by decide) ww_93 rfl rfl (by decide +kernel)) <|
  mm_at_cons (ok_iload_n (k := 1) (by decide +kernel) rfl) <|
  mm_at_cons (ok_aald (t9 := 3) (C := "CraneTurns$Job") (by decide) rfl rfl (by decide +kernel)) <|
  mm_at_cons (ok_iconst (n := (-1)) (by decide +kernel) (by decide)) <|
  mm_at_cons (ok_putf (ci := 1) (k := 4) (idx := 63) rfl ct_in1 (by decide) ww_99 rfl ct_ty1 ct_tyok1 ct_nm1 rfl (by decide +kernel) rfl (by decide +kernel)) <|
  mm_at_nil
theorem ro_Yd_free : mm_RtOk prog_5_method_6_code (none) rt_Yd_free :=
  mm_rt_cons (Or.inl ⟨rfl, rfl, by decide +kernel⟩) <|
  mm_rt_nil
set_option maxRecDepth 100000 in
set_option maxHeartbeats 4000000 in
theorem po_Yd_countFree (hS : mm_Sound ct_GW ct_NW D ct_cl (ct_tys cA) ad cA ct_K ct_kd ct_N l ct_T (mm_rm d) S) : ∀ pc f, mm_at pg_Yd_countFree pc = some f → mm_Ok ct_GW ct_NW D ct_cl (ct_tys cA) ad cA ct_K ct_kd ct_N l (mm_rm (d + 1)) "CraneTurns$Yard" prog_5_method_7_code 3 S pc f :=
  mm_at_cons (ok_iconst (n := 0) (by decide +kernel) (by decide)) <|
  mm_at_cons (ok_istore_n (k := 1) (by decide +kernel) rfl) <|
  mm_at_cons (ok_iconst (n := 0) (by decide +kernel) (by decide)) <|
  mm_at_cons (ok_istore_n (k := 2) (by decide +kernel) rfl) <|
  mm_at_cons (ok_iload_n (k := 2) (by decide +kernel) rfl) <|
  mm_at_cons (ok_aload_n (k := 0) (by decide +kernel) rfl) <|
  mm_at_cons (ok_getf (ci := 3) (k := 6) (idx := 45) rfl ct_in3 (by decide) ww_92 rfl rfl (by decide +kernel)) <|
  mm_at_cons (ok_icmp_ge (off := 24) (by decide +kernel) (by decide)) <|
  mm_at_cons (ok_aload_n (k := 0) (by decide +kernel) rfl) <|
  mm_at_cons (ok_getr (ck := 11) (off := 2) (ci := 3) (k := 10) (idx := 23) rfl ct_in3 (by decide) ww_93 rfl rfl (by decide +kernel)) <|
  mm_at_cons (ok_iload_n (k := 2) (by decide +kernel) rfl) <|
  mm_at_cons (ok_aald (t9 := 3) (C := "CraneTurns$Job") (by decide) rfl rfl (by decide +kernel)) <|
  mm_at_cons (ok_getf (ci := 1) (k := 3) (idx := 60) rfl ct_in1 (by decide) ww_98 rfl rfl (by decide +kernel)) <|
  mm_at_cons (ok_if_ne (off := 6) (by decide +kernel) (by decide)) <|
  mm_at_cons (ok_iinc (n := 1) (by decide +kernel) (by decide)) <|
  mm_at_cons (ok_iinc (n := 1) (by decide +kernel) (by decide)) <|
  mm_at_cons (ok_goto (off := (-26)) (by decide +kernel) (by decide)) <|
  mm_at_cons (ok_iload_n (k := 1) (by decide +kernel) rfl) <|
  mm_at_nil
theorem ro_Yd_countFree : mm_RtOk prog_5_method_7_code (some .int) rt_Yd_countFree :=
  mm_rt_cons (Or.inr (Or.inl ⟨rfl, rfl, by decide +kernel⟩)) <|
  mm_rt_nil
set_option maxRecDepth 100000 in
set_option maxHeartbeats 4000000 in
theorem po_Yd_floorOf (hS : mm_Sound ct_GW ct_NW D ct_cl (ct_tys cA) ad cA ct_K ct_kd ct_N l ct_T (mm_rm d) S) : ∀ pc f, mm_at pg_Yd_floorOf pc = some f → mm_Ok ct_GW ct_NW D ct_cl (ct_tys cA) ad cA ct_K ct_kd ct_N l (mm_rm (d + 1)) "CraneTurns$Yard" prog_5_method_8_code 2 S pc f :=
  mm_at_cons (ok_iload_n (k := 1) (by decide +kernel) rfl) <|
  mm_at_cons (ok_if_le (off := 22) (by decide +kernel) (by decide)) <|
  mm_at_cons (ok_aload_n (k := 0) (by decide +kernel) rfl) <|
  mm_at_cons (ok_getr (ck := 10) (off := 1) (ci := 3) (k := 9) (idx := 17) rfl ct_in3 (by decide) ww_90 rfl rfl (by decide +kernel)) <|
  mm_at_cons (ok_iload_n (k := 1) (by decide +kernel) rfl) <|
  mm_at_cons (ok_iconst (n := 1) (by decide +kernel) (by decide)) <|
  mm_at_cons (ok_isub (by decide +kernel)) <|
  mm_at_cons (ok_aald (t9 := 2) (C := "CraneTurns$Crane") (by decide) rfl rfl (by decide +kernel)) <|
  mm_at_cons (ok_getf (ci := 0) (k := 0) (idx := 81) rfl ct_in0 (by decide) ww_109 rfl rfl (by decide +kernel)) <|
  mm_at_cons (ok_aload_n (k := 0) (by decide +kernel) rfl) <|
  mm_at_cons (ok_getf (ci := 3) (k := 1) (idx := 32) rfl ct_in3 (by decide) ww_87 rfl rfl (by decide +kernel)) <|
  mm_at_cons (ok_iadd (by decide +kernel)) <|
  mm_at_cons (ok_goto (off := 4) (by decide +kernel) (by decide)) <|
  mm_at_cons (ok_iconst (n := 0) (by decide +kernel) (by decide)) <|
  mm_at_nil
theorem ro_Yd_floorOf : mm_RtOk prog_5_method_8_code (some .int) rt_Yd_floorOf :=
  mm_rt_cons (Or.inr (Or.inl ⟨rfl, rfl, by decide +kernel⟩)) <|
  mm_rt_nil
set_option maxRecDepth 100000 in
set_option maxHeartbeats 4000000 in
theorem po_Yd_ceilingOf (hS : mm_Sound ct_GW ct_NW D ct_cl (ct_tys cA) ad cA ct_K ct_kd ct_N l ct_T (mm_rm d) S) : ∀ pc f, mm_at pg_Yd_ceilingOf pc = some f → mm_Ok ct_GW ct_NW D ct_cl (ct_tys cA) ad cA ct_K ct_kd ct_N l (mm_rm (d + 1)) "CraneTurns$Yard" prog_5_method_9_code 2 S pc f :=
  mm_at_cons (ok_iload_n (k := 1) (by decide +kernel) rfl) <|
  mm_at_cons (ok_iconst (n := 1) (by decide +kernel) (by decide)) <|
  mm_at_cons (ok_iadd (by decide +kernel)) <|
  mm_at_cons (ok_aload_n (k := 0) (by decide +kernel) rfl) <|
  mm_at_cons (ok_getf (ci := 3) (k := 0) (idx := 29) rfl ct_in3 (by decide) ww_86 rfl rfl (by decide +kernel)) <|
  mm_at_cons (ok_icmp_ge (off := 22) (by decide +kernel) (by decide)) <|
  mm_at_cons (ok_aload_n (k := 0) (by decide +kernel) rfl) <|
  mm_at_cons (ok_getr (ck := 10) (off := 1) (ci := 3) (k := 9) (idx := 17) rfl ct_in3 (by decide) ww_90 rfl rfl (by decide +kernel)) <|
  mm_at_cons (ok_iload_n (k := 1) (by decide +kernel) rfl) <|
  mm_at_cons (ok_iconst (n := 1) (by decide +kernel) (by decide)) <|
  mm_at_cons (ok_iadd (by decide +kernel)) <|
  mm_at_cons (ok_aald (t9 := 2) (C := "CraneTurns$Crane") (by decide) rfl rfl (by decide +kernel)) <|
  mm_at_cons (ok_getf (ci := 0) (k := 0) (idx := 81) rfl ct_in0 (by decide) ww_109 rfl rfl (by decide +kernel)) <|
  mm_at_cons (ok_aload_n (k := 0) (by decide +kernel) rfl) <|
  mm_at_cons (ok_getf (ci := 3) (k := 1) (idx := 32) rfl ct_in3 (by decide) ww_87 rfl rfl (by decide +kernel)) <|
  mm_at_cons (ok_isub (by decide +kernel)) <|
  mm_at_cons (ok_goto (off := 6) (by decide +kernel) (by decide)) <|
  mm_at_cons (ok_sipush (n := 200) (by decide +kernel) (by decide)) <|
  mm_at_nil
theorem ro_Yd_ceilingOf : mm_RtOk prog_5_method_9_code (some .int) rt_Yd_ceilingOf :=
  mm_rt_cons (Or.inr (Or.inl ⟨rfl, rfl, by decide +kernel⟩)) <|
  mm_rt_nil
set_option maxRecDepth 100000 in
set_option maxHeartbeats 4000000 in
theorem po_Yd_hasRoom (hS : mm_Sound ct_GW ct_NW D ct_cl (ct_tys cA) ad cA ct_K ct_kd ct_N l ct_T (mm_rm d) S) : ∀ pc f, mm_at pg_Yd_hasRoom pc = some f → mm_Ok ct_GW ct_NW D ct_cl (ct_tys cA) ad cA ct_K ct_kd ct_N l (mm_rm (d + 1)) "CraneTurns$Yard" prog_5_method_10_code 3 S pc f :=
  mm_at_cons (ok_iload_n (k := 2) (by decide +kernel) rfl) <|
  mm_at_cons (ok_aload_n (k := 0) (by decide +kernel) rfl) <|
  mm_at_cons (ok_iload_n (k := 1) (by decide +kernel) rfl) <|
  mm_at_cons (ok_callV (z := 21) (ci := 3) (idx := 84) rfl hS ⟨rfl, rfl⟩ (mm_rmok (by decide)) rfl ct_good ww_110 (mm_4 ww_111 ww_112 sel_21 ww_37) (by decide +kernel) (by decide +kernel)) <|
  mm_at_cons (ok_aload_n (k := 0) (by decide +kernel) rfl) <|
  mm_at_cons (ok_iload_n (k := 1) (by decide +kernel) rfl) <|
  mm_at_cons (ok_callV (z := 22) (ci := 3) (idx := 88) rfl hS ⟨rfl, rfl⟩ (mm_rmok (by decide)) rfl ct_good ww_113 (mm_4 ww_114 ww_115 sel_22 ww_37) (by decide +kernel) (by decide +kernel)) <|
  mm_at_cons (ok_callN (z := 1) (idx := 74) (host := "CraneTurns") hS ⟨rfl, rfl⟩ (mm_rmok (by decide)) ct_good ww_6 (mm_2 ww_7 ww_8) (by decide +kernel) (by decide +kernel) (by decide +kernel)) <|
  mm_at_nil
theorem ro_Yd_hasRoom : mm_RtOk prog_5_method_10_code (some .boolean) rt_Yd_hasRoom :=
  mm_rt_cons (Or.inr (Or.inr ⟨rfl, rfl, by decide +kernel⟩)) <|
  mm_rt_nil
set_option maxRecDepth 100000 in
set_option maxHeartbeats 4000000 in
theorem po_Yd_passSecond (hS : mm_Sound ct_GW ct_NW D ct_cl (ct_tys cA) ad cA ct_K ct_kd ct_N l ct_T (mm_rm d) S) : ∀ pc f, mm_at pg_Yd_passSecond pc = some f → mm_Ok ct_GW ct_NW D ct_cl (ct_tys cA) ad cA ct_K ct_kd ct_N l (mm_rm (d + 1)) "CraneTurns$Yard" prog_5_method_11_code 2 S pc f :=
  mm_at_cons (ok_iconst (n := 0) (by decide +kernel) (by decide)) <|
  mm_at_cons (ok_istore_n (k := 1) (by decide +kernel) rfl) <|
  mm_at_cons (ok_iload_n (k := 1) (by decide +kernel) rfl) <|
  mm_at_cons (ok_aload_n (k := 0) (by decide +kernel) rfl) <|
  mm_at_cons (ok_getf (ci := 3) (k := 0) (idx := 29) rfl ct_in3 (by decide) ww_86 rfl rfl (by decide +kernel)) <|
  mm_at_cons (ok_icmp_ge (off := 28) (by decide +kernel) (by decide)) <|
  mm_at_cons (ok_aload_n (k := 0) (by decide +kernel) rfl) <|
  mm_at_cons (ok_getr (ck := 10) (off := 1) (ci := 3) (k := 9) (idx := 17) rfl ct_in3 (by decide) ww_90 rfl rfl (by decide +kernel)) <|
  mm_at_cons (ok_iload_n (k := 1) (by decide +kernel) rfl) <|
  mm_at_cons (ok_aald (t9 := 2) (C := "CraneTurns$Crane") (by decide) rfl rfl (by decide +kernel)) <|
  mm_at_cons (ok_getr (ck := 6) (off := 1) (ci := 0) (k := 8) (idx := 91) rfl ct_in0 (by decide) ww_116 rfl rfl (by decide +kernel)) <|
  mm_at_cons (ok_aload_n (k := 0) (by decide +kernel) rfl) <|
  mm_at_cons (ok_iload_n (k := 1) (by decide +kernel) rfl) <|
  mm_at_cons (ok_callV (z := 25) (ci := 3) (idx := 95) rfl hS ⟨rfl, rfl⟩ (mm_rmok (by decide)) rfl ct_good ww_117 (mm_4 ww_118 ww_119 sel_25 ww_37) (by decide +kernel) (by decide +kernel)) <|
  mm_at_cons (ok_dup2 (by decide +kernel)) <|
  mm_at_cons (ok_iald (t9 := 0) (by decide) rfl rfl (by decide +kernel)) <|
  mm_at_cons (ok_iconst (n := 1) (by decide +kernel) (by decide)) <|
  mm_at_cons (ok_iadd (by decide +kernel)) <|
  mm_at_cons (ok_iast (t9 := 0) (by decide) rfl rfl (by decide +kernel)) <|
  mm_at_cons (ok_iinc (n := 1) (by decide +kernel) (by decide)) <|
  mm_at_cons (ok_goto (off := (-30)) (by decide +kernel) (by decide)) <|
  mm_at_cons (ok_aload_n (k := 0) (by decide +kernel) rfl) <|
  mm_at_cons (ok_dup (by decide +kernel)) <|
  mm_at_cons (ok_getf (ci := 3) (k := 4) (idx := 98) rfl ct_in3 (by decide) ww_120 rfl rfl (by decide +kernel)) <|
  mm_at_cons (ok_iconst (n := 1) (by decide +kernel) (by decide)) <|
  mm_at_cons (ok_iadd (by decide +kernel)) <|
  mm_at_cons (ok_putf (ci := 3) (k := 4) (idx := 98) rfl ct_in3 (by decide) ww_120 rfl ct_ty3 ct_tyok3 ct_nm3 rfl (by decide +kernel) rfl (by decide +kernel)) <|
  mm_at_cons (ok_iconst (n := 1) (by decide +kernel) (by decide)) <|
  mm_at_cons (ok_istore_n (k := 1) (by decide +kernel) rfl) <|
  mm_at_cons (ok_iload_n (k := 1) (by decide +kernel) rfl) <|
  mm_at_cons (ok_aload_n (k := 0) (by decide +kernel) rfl) <|
  mm_at_cons (ok_getf (ci := 3) (k := 0) (idx := 29) rfl ct_in3 (by decide) ww_86 rfl rfl (by decide +kernel)) <|
  mm_at_cons (ok_icmp_ge (off := 41) (by decide +kernel) (by decide)) <|
  mm_at_cons (ok_aload_n (k := 0) (by decide +kernel) rfl) <|
  mm_at_cons (ok_aload_n (k := 0) (by decide +kernel) rfl) <|
  mm_at_cons (ok_getf (ci := 3) (k := 5) (idx := 9) rfl ct_in3 (by decide) ww_121 rfl rfl (by decide +kernel)) <|
  mm_at_cons (ok_aload_n (k := 0) (by decide +kernel) rfl) <|
  mm_at_cons (ok_getr (ck := 10) (off := 1) (ci := 3) (k := 9) (idx := 17) rfl ct_in3 (by decide) ww_90 rfl rfl (by decide +kernel)) <|
  mm_at_cons (ok_iload_n (k := 1) (by decide +kernel) rfl) <|
  mm_at_cons (ok_aald (t9 := 2) (C := "CraneTurns$Crane") (by decide) rfl rfl (by decide +kernel)) <|
  mm_at_cons (ok_getf (ci := 0) (k := 0) (idx := 81) rfl ct_in0 (by decide) ww_109 rfl rfl (by decide +kernel)) <|
  mm_at_cons (ok_aload_n (k := 0) (by decide +kernel) rfl) <|
  mm_at_cons (ok_getr (ck := 10) (off := 1) (ci := 3) (k := 9) (idx := 17) rfl ct_in3 (by decide) ww_90 rfl rfl (by decide +kernel)) <|
  mm_at_cons (ok_iload_n (k := 1) (by decide +kernel) rfl) <|
  mm_at_cons (ok_iconst (n := 1) (by decide +kernel) (by decide)) <|
  mm_at_cons (ok_isub (by decide +kernel)) <|
  mm_at_cons (ok_aald (t9 := 2) (C := "CraneTurns$Crane") (by decide) rfl rfl (by decide +kernel)) <|
  mm_at_cons (ok_getf (ci := 0) (k := 0) (idx := 81) rfl ct_in0 (by decide) ww_109 rfl rfl (by decide +kernel)) <|
  mm_at_cons (ok_isub (by decide +kernel)) <|
  mm_at_cons (ok_min (idx := 101) ww_122 ww_39 ww_40 ww_41 mm_rmR (by decide +kernel)) <|
  mm_at_cons (ok_putf (ci := 3) (k := 5) (idx := 9) rfl ct_in3 (by decide) ww_121 rfl ct_ty3 ct_tyok3 ct_nm3 rfl (by decide +kernel) rfl (by decide +kernel)) <|
  mm_at_cons (ok_iinc (n := 1) (by decide +kernel) (by decide)) <|
  mm_at_cons (ok_goto (off := (-43)) (by decide +kernel) (by decide)) <|
  mm_at_nil
theorem ro_Yd_passSecond : mm_RtOk prog_5_method_11_code (none) rt_Yd_passSecond :=
  mm_rt_cons (Or.inl ⟨rfl, rfl, by decide +kernel⟩) <|
  mm_rt_nil
set_option maxRecDepth 100000 in
set_option maxHeartbeats 4000000 in
theorem po_Yd_passSecondOf (hS : mm_Sound ct_GW ct_NW D ct_cl (ct_tys cA) ad cA ct_K ct_kd ct_N l ct_T (mm_rm d) S) : ∀ pc f, mm_at pg_Yd_passSecondOf pc = some f → mm_Ok ct_GW ct_NW D ct_cl (ct_tys cA) ad cA ct_K ct_kd ct_N l (mm_rm (d + 1)) "CraneTurns$Yard" prog_5_method_12_code 4 S pc f :=
  mm_at_cons (ok_aload_n (k := 0) (by decide +kernel) rfl) <|
  mm_at_cons (ok_getr (ck := 10) (off := 1) (ci := 3) (k := 9) (idx := 17) rfl ct_in3 (by decide) ww_90 rfl rfl (by decide +kernel)) <|
  mm_at_cons (ok_iload_n (k := 1) (by decide +kernel) rfl) <|
  mm_at_cons (ok_aald (t9 := 2) (C := "CraneTurns$Crane") (by decide) rfl rfl (by decide +kernel)) <|
  mm_at_cons (ok_astore_n (k := 2) (by decide +kernel) rfl) <|
  mm_at_cons (ok_aload_n (k := 2) (by decide +kernel) rfl) <|
  mm_at_cons (ok_getf (ci := 0) (k := 3) (idx := 107) rfl ct_in0 (by decide) ww_123 rfl rfl (by decide +kernel)) <|
  mm_at_cons (ok_if_eq (off := 5) (by decide +kernel) (by decide)) <|
  mm_at_cons (ok_iconst (n := 3) (by decide +kernel) (by decide)) <|
  mm_at_cons (ok_aload_n (k := 2) (by decide +kernel) rfl) <|
  mm_at_cons (ok_getf (ci := 0) (k := 4) (idx := 110) rfl ct_in0 (by decide) ww_124 rfl rfl (by decide +kernel)) <|
  mm_at_cons (ok_iconst (n := (-1)) (by decide +kernel) (by decide)) <|
  mm_at_cons (ok_icmp_ne (off := 8) (by decide +kernel) (by decide)) <|
  mm_at_cons (ok_aload_n (k := 0) (by decide +kernel) rfl) <|
  mm_at_cons (ok_aload_n (k := 2) (by decide +kernel) rfl) <|
  mm_at_cons (ok_callV (z := 26) (ci := 3) (idx := 113) rfl hS ⟨rfl, rfl⟩ (mm_rmok (by decide)) rfl ct_good ww_125 (mm_4 ww_126 ww_127 sel_26 ww_37) (by decide +kernel) (by decide +kernel)) <|
  mm_at_cons (ok_aload_n (k := 2) (by decide +kernel) rfl) <|
  mm_at_cons (ok_getf (ci := 0) (k := 5) (idx := 117) rfl ct_in0 (by decide) ww_128 rfl rfl (by decide +kernel)) <|
  mm_at_cons (ok_tsw (dflt := 78) (offs := #[45, 31, 45, 38]) (len := 31) (by decide +kernel) (by decide) (by decide) (by decide)) <|
  mm_at_cons (ok_aload_n (k := 0) (by decide +kernel) rfl) <|
  mm_at_cons (ok_aload_n (k := 2) (by decide +kernel) rfl) <|
  mm_at_cons (ok_callV (z := 28) (ci := 3) (idx := 120) rfl hS ⟨rfl, rfl⟩ (mm_rmok (by decide)) rfl ct_good ww_129 (mm_4 ww_130 ww_131 sel_28 ww_37) (by decide +kernel) (by decide +kernel)) <|
  mm_at_cons (ok_iconst (n := 0) (by decide +kernel) (by decide)) <|
  mm_at_cons (ok_aload_n (k := 0) (by decide +kernel) rfl) <|
  mm_at_cons (ok_aload_n (k := 2) (by decide +kernel) rfl) <|
  mm_at_cons (ok_callV (z := 29) (ci := 3) (idx := 123) rfl hS ⟨rfl, rfl⟩ (mm_rmok (by decide)) rfl ct_good ww_132 (mm_4 ww_133 ww_134 sel_29 ww_37) (by decide +kernel) (by decide +kernel)) <|
  mm_at_cons (ok_iconst (n := 0) (by decide +kernel) (by decide)) <|
  mm_at_cons (ok_aload_n (k := 2) (by decide +kernel) rfl) <|
  mm_at_cons (ok_getf (ci := 0) (k := 0) (idx := 81) rfl ct_in0 (by decide) ww_109 rfl rfl (by decide +kernel)) <|
  mm_at_cons (ok_istore_n (k := 3) (by decide +kernel) rfl) <|
  mm_at_cons (ok_aload_n (k := 0) (by decide +kernel) rfl) <|
  mm_at_cons (ok_iload_n (k := 1) (by decide +kernel) rfl) <|
  mm_at_cons (ok_aload_n (k := 2) (by decide +kernel) rfl) <|
  mm_at_cons (ok_getf (ci := 0) (k := 6) (idx := 126) rfl ct_in0 (by decide) ww_135 rfl rfl (by decide +kernel)) <|
  mm_at_cons (ok_callV (z := 31) (ci := 3) (idx := 129) rfl hS ⟨rfl, rfl⟩ (mm_rmok (by decide)) rfl ct_good ww_136 (mm_4 ww_137 ww_138 sel_31 ww_37) (by decide +kernel) (by decide +kernel)) <|
  mm_at_cons (ok_aload_n (k := 0) (by decide +kernel) rfl) <|
  mm_at_cons (ok_aload_n (k := 2) (by decide +kernel) rfl) <|
  mm_at_cons (ok_callV (z := 27) (ci := 3) (idx := 133) rfl hS ⟨rfl, rfl⟩ (mm_rmok (by decide)) rfl ct_good ww_139 (mm_4 ww_140 ww_141 sel_27 ww_37) (by decide +kernel) (by decide +kernel)) <|
  mm_at_cons (ok_aload_n (k := 2) (by decide +kernel) rfl) <|
  mm_at_cons (ok_getf (ci := 0) (k := 0) (idx := 81) rfl ct_in0 (by decide) ww_109 rfl rfl (by decide +kernel)) <|
  mm_at_cons (ok_iload_n (k := 3) (by decide +kernel) rfl) <|
  mm_at_cons (ok_icmp_ne (off := 7) (by decide +kernel) (by decide)) <|
  mm_at_cons (ok_iconst (n := 1) (by decide +kernel) (by decide)) <|
  mm_at_cons (ok_goto (off := 4) (by decide +kernel) (by decide)) <|
  mm_at_cons (ok_iconst (n := 0) (by decide +kernel) (by decide)) <|
  mm_at_cons (ok_aload_n (k := 0) (by decide +kernel) rfl) <|
  mm_at_cons (ok_iload_n (k := 1) (by decide +kernel) rfl) <|
  mm_at_cons (ok_aload_n (k := 0) (by decide +kernel) rfl) <|
  mm_at_cons (ok_iload_n (k := 1) (by decide +kernel) rfl) <|
  mm_at_cons (ok_callV (z := 30) (ci := 3) (idx := 136) rfl hS ⟨rfl, rfl⟩ (mm_rmok (by decide)) rfl ct_good ww_142 (mm_4 ww_143 ww_144 sel_30 ww_37) (by decide +kernel) (by decide +kernel)) <|
  mm_at_cons (ok_callV (z := 31) (ci := 3) (idx := 129) rfl hS ⟨rfl, rfl⟩ (mm_rmok (by decide)) rfl ct_good ww_136 (mm_4 ww_137 ww_138 sel_31 ww_37) (by decide +kernel) (by decide +kernel)) <|
  mm_at_cons (ok_iconst (n := 2) (by decide +kernel) (by decide)) <|
  mm_at_nil
theorem ro_Yd_passSecondOf : mm_RtOk prog_5_method_12_code (some .int) rt_Yd_passSecondOf :=
  mm_rt_cons (Or.inr (Or.inl ⟨rfl, rfl, by decide +kernel⟩)) <|
  mm_rt_cons (Or.inr (Or.inl ⟨rfl, rfl, by decide +kernel⟩)) <|
  mm_rt_cons (Or.inr (Or.inl ⟨rfl, rfl, by decide +kernel⟩)) <|
  mm_rt_cons (Or.inr (Or.inl ⟨rfl, rfl, by decide +kernel⟩)) <|
  mm_rt_cons (Or.inr (Or.inl ⟨rfl, rfl, by decide +kernel⟩)) <|
  mm_rt_nil
set_option maxRecDepth 100000 in
set_option maxHeartbeats 4000000 in
theorem po_Yd_takeFirst (hS : mm_Sound ct_GW ct_NW D ct_cl (ct_tys cA) ad cA ct_K ct_kd ct_N l ct_T (mm_rm d) S) : ∀ pc f, mm_at pg_Yd_takeFirst pc = some f → mm_Ok ct_GW ct_NW D ct_cl (ct_tys cA) ad cA ct_K ct_kd ct_N l (mm_rm (d + 1)) "CraneTurns$Yard" prog_5_method_13_code 3 S pc f :=
  mm_at_cons (ok_aload_n (k := 1) (by decide +kernel) rfl) <|
  mm_at_cons (ok_getf (ci := 0) (k := 10) (idx := 139) rfl ct_in0 (by decide) ww_145 rfl rfl (by decide +kernel)) <|
  mm_at_cons (ok_if_ne (off := 4) (by decide +kernel) (by decide)) <|
  mm_at_cons (ok_aload_n (k := 1) (by decide +kernel) rfl) <|
  mm_at_cons (ok_getr (ck := 7) (off := 2) (ci := 0) (k := 9) (idx := 142) rfl ct_in0 (by decide) ww_146 rfl rfl (by decide +kernel)) <|
  mm_at_cons (ok_iconst (n := 0) (by decide +kernel) (by decide)) <|
  mm_at_cons (ok_iald (t9 := 0) (by decide) rfl rfl (by decide +kernel)) <|
  mm_at_cons (ok_istore_n (k := 2) (by decide +kernel) rfl) <|
  mm_at_cons (ok_aload_n (k := 0) (by decide +kernel) rfl) <|
  mm_at_cons (ok_getf (ci := 3) (k := 4) (idx := 98) rfl ct_in3 (by decide) ww_120 rfl rfl (by decide +kernel)) <|
  mm_at_cons (ok_aload_n (k := 0) (by decide +kernel) rfl) <|
  mm_at_cons (ok_getr (ck := 11) (off := 2) (ci := 3) (k := 10) (idx := 23) rfl ct_in3 (by decide) ww_93 rfl rfl (by decide +kernel)) <|
  mm_at_cons (ok_iload_n (k := 2) (by decide +kernel) rfl) <|
  mm_at_cons (ok_aald (t9 := 3) (C := "CraneTurns$Job") (by decide) rfl rfl (by decide +kernel)) <|
  mm_at_cons (ok_getf (ci := 1) (k := 2) (idx := 54) rfl ct_in1 (by decide) ww_96 rfl rfl (by decide +kernel)) <|
  mm_at_cons (ok_icmp_ge (off := 4) (by decide +kernel) (by decide)) <|
  mm_at_cons (ok_aload_n (k := 1) (by decide +kernel) rfl) <|
  mm_at_cons (ok_iload_n (k := 2) (by decide +kernel) rfl) <|
  mm_at_cons (ok_callV (z := 6) (ci := 0) (idx := 78) rfl hS ⟨rfl, rfl⟩ (mm_rmok (by decide)) rfl ct_good ww_105 (mm_4 ww_107 ww_108 ww_106 ww_17) (by decide +kernel) (by decide +kernel)) <|
  mm_at_cons (ok_aload_n (k := 1) (by decide +kernel) rfl) <|
  mm_at_cons (ok_iload_n (k := 2) (by decide +kernel) rfl) <|
  mm_at_cons (ok_putf (ci := 0) (k := 4) (idx := 110) rfl ct_in0 (by decide) ww_124 rfl ct_ty0 ct_tyok0 ct_nm0 rfl (by decide +kernel) rfl (by decide +kernel)) <|
  mm_at_cons (ok_aload_n (k := 0) (by decide +kernel) rfl) <|
  mm_at_cons (ok_getr (ck := 11) (off := 2) (ci := 3) (k := 10) (idx := 23) rfl ct_in3 (by decide) ww_93 rfl rfl (by decide +kernel)) <|
  mm_at_cons (ok_iload_n (k := 2) (by decide +kernel) rfl) <|
  mm_at_cons (ok_aald (t9 := 3) (C := "CraneTurns$Job") (by decide) rfl rfl (by decide +kernel)) <|
  mm_at_cons (ok_iconst (n := 2) (by decide +kernel) (by decide)) <|
  mm_at_cons (ok_putf (ci := 1) (k := 3) (idx := 60) rfl ct_in1 (by decide) ww_98 rfl ct_ty1 ct_tyok1 ct_nm1 rfl (by decide +kernel) rfl (by decide +kernel)) <|
  mm_at_cons (ok_aload_n (k := 1) (by decide +kernel) rfl) <|
  mm_at_cons (ok_aload_n (k := 0) (by decide +kernel) rfl) <|
  mm_at_cons (ok_getr (ck := 11) (off := 2) (ci := 3) (k := 10) (idx := 23) rfl ct_in3 (by decide) ww_93 rfl rfl (by decide +kernel)) <|
  mm_at_cons (ok_iload_n (k := 2) (by decide +kernel) rfl) <|
  mm_at_cons (ok_aald (t9 := 3) (C := "CraneTurns$Job") (by decide) rfl rfl (by decide +kernel)) <|
  mm_at_cons (ok_getf (ci := 1) (k := 0) (idx := 48) rfl ct_in1 (by decide) ww_94 rfl rfl (by decide +kernel)) <|
  mm_at_cons (ok_putf (ci := 0) (k := 6) (idx := 126) rfl ct_in0 (by decide) ww_135 rfl ct_ty0 ct_tyok0 ct_nm0 rfl (by decide +kernel) rfl (by decide +kernel)) <|
  mm_at_cons (ok_aload_n (k := 1) (by decide +kernel) rfl) <|
  mm_at_cons (ok_iconst (n := 1) (by decide +kernel) (by decide)) <|
  mm_at_cons (ok_putf (ci := 0) (k := 5) (idx := 117) rfl ct_in0 (by decide) ww_128 rfl ct_ty0 ct_tyok0 ct_nm0 rfl (by decide +kernel) rfl (by decide +kernel)) <|
  mm_at_cons (ok_aload_n (k := 0) (by decide +kernel) rfl) <|
  mm_at_cons (ok_aload_n (k := 1) (by decide +kernel) rfl) <|
  mm_at_cons (ok_callV (z := 27) (ci := 3) (idx := 133) rfl hS ⟨rfl, rfl⟩ (mm_rmok (by decide)) rfl ct_good ww_139 (mm_4 ww_140 ww_141 sel_27 ww_37) (by decide +kernel) (by decide +kernel)) <|
  mm_at_nil
theorem ro_Yd_takeFirst : mm_RtOk prog_5_method_13_code (none) rt_Yd_takeFirst :=
  mm_rt_cons (Or.inl ⟨rfl, rfl, by decide +kernel⟩) <|
  mm_rt_cons (Or.inl ⟨rfl, rfl, by decide +kernel⟩) <|
  mm_rt_cons (Or.inl ⟨rfl, rfl, by decide +kernel⟩) <|
  mm_rt_nil
end
end
section
section
variable {D : va_G} {ad : Nat → Nat} {cA : Nat → ClassId} {l : Launch} {d : Nat} {S : mm_S}
set_option maxRecDepth 100000 in
set_option maxHeartbeats 4000000 in
theorem po_Yd_handleIfThere (hS : mm_Sound ct_GW ct_NW D ct_cl (ct_tys cA) ad cA ct_K ct_kd ct_N l ct_T (mm_rm d) S) : ∀ pc f, mm_at pg_Yd_handleIfThere pc = some f → mm_Ok ct_GW ct_NW D ct_cl (ct_tys cA) ad cA ct_K ct_kd ct_N l (mm_rm (d + 1)) "CraneTurns$Yard" prog_5_method_14_code 2 S pc f :=
  mm_at_cons (ok_aload_n (k := 1) (by decide +kernel) rfl) <|
  mm_at_cons (ok_getf (ci := 0) (k := 0) (idx := 81) rfl ct_in0 (by decide) ww_109 rfl rfl (by decide +kernel)) <|
  mm_at_cons (ok_aload_n (k := 1) (by decide +kernel) rfl) <|
  mm_at_cons (ok_getf (ci := 0) (k := 6) (idx := 126) rfl ct_in0 (by decide) ww_135 rfl rfl (by decide +kernel)) <|
  mm_at_cons (ok_icmp_ne (off := 28) (by decide +kernel) (by decide)) <|
  mm_at_cons (ok_aload_n (k := 1) (by decide +kernel) rfl) <|
  mm_at_cons (ok_aload_n (k := 1) (by decide +kernel) rfl) <|
  mm_at_cons (ok_getf (ci := 0) (k := 5) (idx := 117) rfl ct_in0 (by decide) ww_128 rfl rfl (by decide +kernel)) <|
  mm_at_cons (ok_iconst (n := 1) (by decide +kernel) (by decide)) <|
  mm_at_cons (ok_icmp_ne (off := 7) (by decide +kernel) (by decide)) <|
  mm_at_cons (ok_iconst (n := 2) (by decide +kernel) (by decide)) <|
  mm_at_cons (ok_goto (off := 4) (by decide +kernel) (by decide)) <|
  mm_at_cons (ok_iconst (n := 4) (by decide +kernel) (by decide)) <|
  mm_at_cons (ok_putf (ci := 0) (k := 5) (idx := 117) rfl ct_in0 (by decide) ww_128 rfl ct_ty0 ct_tyok0 ct_nm0 rfl (by decide +kernel) rfl (by decide +kernel)) <|
  mm_at_cons (ok_aload_n (k := 1) (by decide +kernel) rfl) <|
  mm_at_cons (ok_aload_n (k := 0) (by decide +kernel) rfl) <|
  mm_at_cons (ok_getf (ci := 3) (k := 3) (idx := 38) rfl ct_in3 (by decide) ww_89 rfl rfl (by decide +kernel)) <|
  mm_at_cons (ok_putf (ci := 0) (k := 7) (idx := 145) rfl ct_in0 (by decide) ww_147 rfl ct_ty0 ct_tyok0 ct_nm0 rfl (by decide +kernel) rfl (by decide +kernel)) <|
  mm_at_nil
theorem ro_Yd_handleIfThere : mm_RtOk prog_5_method_14_code (none) rt_Yd_handleIfThere :=
  mm_rt_cons (Or.inl ⟨rfl, rfl, by decide +kernel⟩) <|
  mm_rt_nil
set_option maxRecDepth 100000 in
set_option maxHeartbeats 4000000 in
theorem po_Yd_liftOn (hS : mm_Sound ct_GW ct_NW D ct_cl (ct_tys cA) ad cA ct_K ct_kd ct_N l ct_T (mm_rm d) S) : ∀ pc f, mm_at pg_Yd_liftOn pc = some f → mm_Ok ct_GW ct_NW D ct_cl (ct_tys cA) ad cA ct_K ct_kd ct_N l (mm_rm (d + 1)) "CraneTurns$Yard" prog_5_method_15_code 2 S pc f :=
  mm_at_cons (ok_aload_n (k := 1) (by decide +kernel) rfl) <|
  mm_at_cons (ok_dup (by decide +kernel)) <|
  mm_at_cons (ok_getf (ci := 0) (k := 7) (idx := 145) rfl ct_in0 (by decide) ww_147 rfl rfl (by decide +kernel)) <|
  mm_at_cons (ok_iconst (n := 1) (by decide +kernel) (by decide)) <|
  mm_at_cons (ok_isub (by decide +kernel)) <|
  mm_at_cons (ok_putf (ci := 0) (k := 7) (idx := 145) rfl ct_in0 (by decide) ww_147 rfl ct_ty0 ct_tyok0 ct_nm0 rfl (by decide +kernel) rfl (by decide +kernel)) <|
  mm_at_cons (ok_aload_n (k := 1) (by decide +kernel) rfl) <|
  mm_at_cons (ok_getf (ci := 0) (k := 7) (idx := 145) rfl ct_in0 (by decide) ww_147 rfl rfl (by decide +kernel)) <|
  mm_at_cons (ok_if_ne (off := 29) (by decide +kernel) (by decide)) <|
  mm_at_cons (ok_aload_n (k := 1) (by decide +kernel) rfl) <|
  mm_at_cons (ok_aload_n (k := 0) (by decide +kernel) rfl) <|
  mm_at_cons (ok_getr (ck := 11) (off := 2) (ci := 3) (k := 10) (idx := 23) rfl ct_in3 (by decide) ww_93 rfl rfl (by decide +kernel)) <|
  mm_at_cons (ok_aload_n (k := 1) (by decide +kernel) rfl) <|
  mm_at_cons (ok_getf (ci := 0) (k := 4) (idx := 110) rfl ct_in0 (by decide) ww_124 rfl rfl (by decide +kernel)) <|
  mm_at_cons (ok_aald (t9 := 3) (C := "CraneTurns$Job") (by decide) rfl rfl (by decide +kernel)) <|
  mm_at_cons (ok_getf (ci := 1) (k := 1) (idx := 51) rfl ct_in1 (by decide) ww_95 rfl rfl (by decide +kernel)) <|
  mm_at_cons (ok_putf (ci := 0) (k := 6) (idx := 126) rfl ct_in0 (by decide) ww_135 rfl ct_ty0 ct_tyok0 ct_nm0 rfl (by decide +kernel) rfl (by decide +kernel)) <|
  mm_at_cons (ok_aload_n (k := 1) (by decide +kernel) rfl) <|
  mm_at_cons (ok_iconst (n := 3) (by decide +kernel) (by decide)) <|
  mm_at_cons (ok_putf (ci := 0) (k := 5) (idx := 117) rfl ct_in0 (by decide) ww_128 rfl ct_ty0 ct_tyok0 ct_nm0 rfl (by decide +kernel) rfl (by decide +kernel)) <|
  mm_at_cons (ok_aload_n (k := 0) (by decide +kernel) rfl) <|
  mm_at_cons (ok_aload_n (k := 1) (by decide +kernel) rfl) <|
  mm_at_cons (ok_callV (z := 27) (ci := 3) (idx := 133) rfl hS ⟨rfl, rfl⟩ (mm_rmok (by decide)) rfl ct_good ww_139 (mm_4 ww_140 ww_141 sel_27 ww_37) (by decide +kernel) (by decide +kernel)) <|
  mm_at_nil
theorem ro_Yd_liftOn : mm_RtOk prog_5_method_15_code (none) rt_Yd_liftOn :=
  mm_rt_cons (Or.inl ⟨rfl, rfl, by decide +kernel⟩) <|
  mm_rt_nil
set_option maxRecDepth 100000 in
set_option maxHeartbeats 4000000 in
theorem po_Yd_setOn (hS : mm_Sound ct_GW ct_NW D ct_cl (ct_tys cA) ad cA ct_K ct_kd ct_N l ct_T (mm_rm d) S) : ∀ pc f, mm_at pg_Yd_setOn pc = some f → mm_Ok ct_GW ct_NW D ct_cl (ct_tys cA) ad cA ct_K ct_kd ct_N l (mm_rm (d + 1)) "CraneTurns$Yard" prog_5_method_16_code 2 S pc f :=
  mm_at_cons (ok_aload_n (k := 1) (by decide +kernel) rfl) <|
  mm_at_cons (ok_dup (by decide +kernel)) <|
  mm_at_cons (ok_getf (ci := 0) (k := 7) (idx := 145) rfl ct_in0 (by decide) ww_147 rfl rfl (by decide +kernel)) <|
  mm_at_cons (ok_iconst (n := 1) (by decide +kernel) (by decide)) <|
  mm_at_cons (ok_isub (by decide +kernel)) <|
  mm_at_cons (ok_putf (ci := 0) (k := 7) (idx := 145) rfl ct_in0 (by decide) ww_147 rfl ct_ty0 ct_tyok0 ct_nm0 rfl (by decide +kernel) rfl (by decide +kernel)) <|
  mm_at_cons (ok_aload_n (k := 1) (by decide +kernel) rfl) <|
  mm_at_cons (ok_getf (ci := 0) (k := 7) (idx := 145) rfl ct_in0 (by decide) ww_147 rfl rfl (by decide +kernel)) <|
  mm_at_cons (ok_if_ne (off := 54) (by decide +kernel) (by decide)) <|
  mm_at_cons (ok_aload_n (k := 0) (by decide +kernel) rfl) <|
  mm_at_cons (ok_getr (ck := 11) (off := 2) (ci := 3) (k := 10) (idx := 23) rfl ct_in3 (by decide) ww_93 rfl rfl (by decide +kernel)) <|
  mm_at_cons (ok_aload_n (k := 1) (by decide +kernel) rfl) <|
  mm_at_cons (ok_getf (ci := 0) (k := 4) (idx := 110) rfl ct_in0 (by decide) ww_124 rfl rfl (by decide +kernel)) <|
  mm_at_cons (ok_aald (t9 := 3) (C := "CraneTurns$Job") (by decide) rfl rfl (by decide +kernel)) <|
  mm_at_cons (ok_iconst (n := 3) (by decide +kernel) (by decide)) <|
  mm_at_cons (ok_putf (ci := 1) (k := 3) (idx := 60) rfl ct_in1 (by decide) ww_98 rfl ct_ty1 ct_tyok1 ct_nm1 rfl (by decide +kernel) rfl (by decide +kernel)) <|
  mm_at_cons (ok_aload_n (k := 0) (by decide +kernel) rfl) <|
  mm_at_cons (ok_getr (ck := 11) (off := 2) (ci := 3) (k := 10) (idx := 23) rfl ct_in3 (by decide) ww_93 rfl rfl (by decide +kernel)) <|
  mm_at_cons (ok_aload_n (k := 1) (by decide +kernel) rfl) <|
  mm_at_cons (ok_getf (ci := 0) (k := 4) (idx := 110) rfl ct_in0 (by decide) ww_124 rfl rfl (by decide +kernel)) <|
  mm_at_cons (ok_aald (t9 := 3) (C := "CraneTurns$Job") (by decide) rfl rfl (by decide +kernel)) <|
  mm_at_cons (ok_aload_n (k := 0) (by decide +kernel) rfl) <|
  mm_at_cons (ok_getf (ci := 3) (k := 4) (idx := 98) rfl ct_in3 (by decide) ww_120 rfl rfl (by decide +kernel)) <|
  mm_at_cons (ok_iconst (n := 1) (by decide +kernel) (by decide)) <|
  mm_at_cons (ok_iadd (by decide +kernel)) <|
  mm_at_cons (ok_putf (ci := 1) (k := 5) (idx := 148) rfl ct_in1 (by decide) ww_148 rfl ct_ty1 ct_tyok1 ct_nm1 rfl (by decide +kernel) rfl (by decide +kernel)) <|
  mm_at_cons (ok_aload_n (k := 0) (by decide +kernel) rfl) <|
  mm_at_cons (ok_dup (by decide +kernel)) <|
  mm_at_cons (ok_getf (ci := 3) (k := 7) (idx := 57) rfl ct_in3 (by decide) ww_97 rfl rfl (by decide +kernel)) <|
  mm_at_cons (ok_iconst (n := 1) (by decide +kernel) (by decide)) <|
  mm_at_cons (ok_isub (by decide +kernel)) <|
  mm_at_cons (ok_putf (ci := 3) (k := 7) (idx := 57) rfl ct_in3 (by decide) ww_97 rfl ct_ty3 ct_tyok3 ct_nm3 rfl (by decide +kernel) rfl (by decide +kernel)) <|
  mm_at_cons (ok_aload_n (k := 1) (by decide +kernel) rfl) <|
  mm_at_cons (ok_iconst (n := (-1)) (by decide +kernel) (by decide)) <|
  mm_at_cons (ok_putf (ci := 0) (k := 4) (idx := 110) rfl ct_in0 (by decide) ww_124 rfl ct_ty0 ct_tyok0 ct_nm0 rfl (by decide +kernel) rfl (by decide +kernel)) <|
  mm_at_cons (ok_aload_n (k := 1) (by decide +kernel) rfl) <|
  mm_at_cons (ok_iconst (n := 0) (by decide +kernel) (by decide)) <|
  mm_at_cons (ok_putf (ci := 0) (k := 5) (idx := 117) rfl ct_in0 (by decide) ww_128 rfl ct_ty0 ct_tyok0 ct_nm0 rfl (by decide +kernel) rfl (by decide +kernel)) <|
  mm_at_nil
theorem ro_Yd_setOn : mm_RtOk prog_5_method_16_code (none) rt_Yd_setOn :=
  mm_rt_cons (Or.inl ⟨rfl, rfl, by decide +kernel⟩) <|
  mm_rt_nil
set_option maxRecDepth 100000 in
set_option maxHeartbeats 4000000 in
theorem po_Yd_placeOutOfTheWay (hS : mm_Sound ct_GW ct_NW D ct_cl (ct_tys cA) ad cA ct_K ct_kd ct_N l ct_T (mm_rm d) S) : ∀ pc f, mm_at pg_Yd_placeOutOfTheWay pc = some f → mm_Ok ct_GW ct_NW D ct_cl (ct_tys cA) ad cA ct_K ct_kd ct_N l (mm_rm (d + 1)) "CraneTurns$Yard" prog_5_method_17_code 3 S pc f :=
  mm_at_cons (ok_aload_n (k := 0) (by decide +kernel) rfl) <|
  mm_at_cons (ok_getr (ck := 10) (off := 1) (ci := 3) (k := 9) (idx := 17) rfl ct_in3 (by decide) ww_90 rfl rfl (by decide +kernel)) <|
  mm_at_cons (ok_iload_n (k := 1) (by decide +kernel) rfl) <|
  mm_at_cons (ok_aald (t9 := 2) (C := "CraneTurns$Crane") (by decide) rfl rfl (by decide +kernel)) <|
  mm_at_cons (ok_astore_n (k := 2) (by decide +kernel) rfl) <|
  mm_at_cons (ok_iload_n (k := 1) (by decide +kernel) rfl) <|
  mm_at_cons (ok_if_le (off := 64) (by decide +kernel) (by decide)) <|
  mm_at_cons (ok_aload_n (k := 0) (by decide +kernel) rfl) <|
  mm_at_cons (ok_getr (ck := 10) (off := 1) (ci := 3) (k := 9) (idx := 17) rfl ct_in3 (by decide) ww_90 rfl rfl (by decide +kernel)) <|
  mm_at_cons (ok_iload_n (k := 1) (by decide +kernel) rfl) <|
  mm_at_cons (ok_iconst (n := 1) (by decide +kernel) (by decide)) <|
  mm_at_cons (ok_isub (by decide +kernel)) <|
  mm_at_cons (ok_aald (t9 := 2) (C := "CraneTurns$Crane") (by decide) rfl rfl (by decide +kernel)) <|
  mm_at_cons (ok_callV (z := 4) (ci := 0) (idx := 151) rfl hS ⟨rfl, rfl⟩ (mm_rmok (by decide)) rfl ct_good ww_149 (mm_4 ww_151 ww_152 ww_150 ww_17) (by decide +kernel) (by decide +kernel)) <|
  mm_at_cons (ok_if_eq (off := 50) (by decide +kernel) (by decide)) <|
  mm_at_cons (ok_aload_n (k := 0) (by decide +kernel) rfl) <|
  mm_at_cons (ok_getr (ck := 10) (off := 1) (ci := 3) (k := 9) (idx := 17) rfl ct_in3 (by decide) ww_90 rfl rfl (by decide +kernel)) <|
  mm_at_cons (ok_iload_n (k := 1) (by decide +kernel) rfl) <|
  mm_at_cons (ok_iconst (n := 1) (by decide +kernel) (by decide)) <|
  mm_at_cons (ok_isub (by decide +kernel)) <|
  mm_at_cons (ok_aald (t9 := 2) (C := "CraneTurns$Crane") (by decide) rfl rfl (by decide +kernel)) <|
  mm_at_cons (ok_getf (ci := 0) (k := 6) (idx := 126) rfl ct_in0 (by decide) ww_135 rfl rfl (by decide +kernel)) <|
  mm_at_cons (ok_aload_n (k := 2) (by decide +kernel) rfl) <|
  mm_at_cons (ok_getf (ci := 0) (k := 0) (idx := 81) rfl ct_in0 (by decide) ww_109 rfl rfl (by decide +kernel)) <|
  mm_at_cons (ok_aload_n (k := 0) (by decide +kernel) rfl) <|
  mm_at_cons (ok_getf (ci := 3) (k := 1) (idx := 32) rfl ct_in3 (by decide) ww_87 rfl rfl (by decide +kernel)) <|
  mm_at_cons (ok_isub (by decide +kernel)) <|
  mm_at_cons (ok_icmp_le (off := 27) (by decide +kernel) (by decide)) <|
  mm_at_cons (ok_aload_n (k := 0) (by decide +kernel) rfl) <|
  mm_at_cons (ok_getr (ck := 10) (off := 1) (ci := 3) (k := 9) (idx := 17) rfl ct_in3 (by decide) ww_90 rfl rfl (by decide +kernel)) <|
  mm_at_cons (ok_iload_n (k := 1) (by decide +kernel) rfl) <|
  mm_at_cons (ok_iconst (n := 1) (by decide +kernel) (by decide)) <|
  mm_at_cons (ok_isub (by decide +kernel)) <|
  mm_at_cons (ok_aald (t9 := 2) (C := "CraneTurns$Crane") (by decide) rfl rfl (by decide +kernel)) <|
  mm_at_cons (ok_getf (ci := 0) (k := 6) (idx := 126) rfl ct_in0 (by decide) ww_135 rfl rfl (by decide +kernel)) <|
  mm_at_cons (ok_aload_n (k := 0) (by decide +kernel) rfl) <|
  mm_at_cons (ok_getf (ci := 3) (k := 1) (idx := 32) rfl ct_in3 (by decide) ww_87 rfl rfl (by decide +kernel)) <|
  mm_at_cons (ok_iadd (by decide +kernel)) <|
  mm_at_cons (ok_aload_n (k := 2) (by decide +kernel) rfl) <|
  mm_at_cons (ok_getf (ci := 0) (k := 2) (idx := 155) rfl ct_in0 (by decide) ww_153 rfl rfl (by decide +kernel)) <|
  mm_at_cons (ok_min (idx := 101) ww_122 ww_39 ww_40 ww_41 mm_rmR (by decide +kernel)) <|
  mm_at_cons (ok_iload_n (k := 1) (by decide +kernel) rfl) <|
  mm_at_cons (ok_iconst (n := 1) (by decide +kernel) (by decide)) <|
  mm_at_cons (ok_iadd (by decide +kernel)) <|
  mm_at_cons (ok_aload_n (k := 0) (by decide +kernel) rfl) <|
  mm_at_cons (ok_getf (ci := 3) (k := 0) (idx := 29) rfl ct_in3 (by decide) ww_86 rfl rfl (by decide +kernel)) <|
  mm_at_cons (ok_icmp_ge (off := 64) (by decide +kernel) (by decide)) <|
  mm_at_cons (ok_aload_n (k := 0) (by decide +kernel) rfl) <|
  mm_at_cons (ok_getr (ck := 10) (off := 1) (ci := 3) (k := 9) (idx := 17) rfl ct_in3 (by decide) ww_90 rfl rfl (by decide +kernel)) <|
  mm_at_cons (ok_iload_n (k := 1) (by decide +kernel) rfl) <|
  mm_at_cons (ok_iconst (n := 1) (by decide +kernel) (by decide)) <|
  mm_at_cons (ok_iadd (by decide +kernel)) <|
  mm_at_cons (ok_aald (t9 := 2) (C := "CraneTurns$Crane") (by decide) rfl rfl (by decide +kernel)) <|
  mm_at_cons (ok_callV (z := 4) (ci := 0) (idx := 151) rfl hS ⟨rfl, rfl⟩ (mm_rmok (by decide)) rfl ct_good ww_149 (mm_4 ww_151 ww_152 ww_150 ww_17) (by decide +kernel) (by decide +kernel)) <|
  mm_at_cons (ok_if_eq (off := 50) (by decide +kernel) (by decide)) <|
  mm_at_cons (ok_aload_n (k := 0) (by decide +kernel) rfl) <|
  mm_at_cons (ok_getr (ck := 10) (off := 1) (ci := 3) (k := 9) (idx := 17) rfl ct_in3 (by decide) ww_90 rfl rfl (by decide +kernel)) <|
  mm_at_cons (ok_iload_n (k := 1) (by decide +kernel) rfl) <|
  mm_at_cons (ok_iconst (n := 1) (by decide +kernel) (by decide)) <|
  mm_at_cons (ok_iadd (by decide +kernel)) <|
  mm_at_cons (ok_aald (t9 := 2) (C := "CraneTurns$Crane") (by decide) rfl rfl (by decide +kernel)) <|
  mm_at_cons (ok_getf (ci := 0) (k := 6) (idx := 126) rfl ct_in0 (by decide) ww_135 rfl rfl (by decide +kernel)) <|
  mm_at_cons (ok_aload_n (k := 2) (by decide +kernel) rfl) <|
  mm_at_cons (ok_getf (ci := 0) (k := 0) (idx := 81) rfl ct_in0 (by decide) ww_109 rfl rfl (by decide +kernel)) <|
  mm_at_cons (ok_aload_n (k := 0) (by decide +kernel) rfl) <|
  mm_at_cons (ok_getf (ci := 3) (k := 1) (idx := 32) rfl ct_in3 (by decide) ww_87 rfl rfl (by decide +kernel)) <|
  mm_at_cons (ok_iadd (by decide +kernel)) <|
  mm_at_cons (ok_icmp_ge (off := 27) (by decide +kernel) (by decide)) <|
  mm_at_cons (ok_aload_n (k := 0) (by decide +kernel) rfl) <|
  mm_at_cons (ok_getr (ck := 10) (off := 1) (ci := 3) (k := 9) (idx := 17) rfl ct_in3 (by decide) ww_90 rfl rfl (by decide +kernel)) <|
  mm_at_cons (ok_iload_n (k := 1) (by decide +kernel) rfl) <|
  mm_at_cons (ok_iconst (n := 1) (by decide +kernel) (by decide)) <|
  mm_at_cons (ok_iadd (by decide +kernel)) <|
  mm_at_cons (ok_aald (t9 := 2) (C := "CraneTurns$Crane") (by decide) rfl rfl (by decide +kernel)) <|
  mm_at_cons (ok_getf (ci := 0) (k := 6) (idx := 126) rfl ct_in0 (by decide) ww_135 rfl rfl (by decide +kernel)) <|
  mm_at_cons (ok_aload_n (k := 0) (by decide +kernel) rfl) <|
  mm_at_cons (ok_getf (ci := 3) (k := 1) (idx := 32) rfl ct_in3 (by decide) ww_87 rfl rfl (by decide +kernel)) <|
  mm_at_cons (ok_isub (by decide +kernel)) <|
  mm_at_cons (ok_aload_n (k := 2) (by decide +kernel) rfl) <|
  mm_at_cons (ok_getf (ci := 0) (k := 1) (idx := 158) rfl ct_in0 (by decide) ww_154 rfl rfl (by decide +kernel)) <|
  mm_at_cons (ok_max (idx := 161) ww_155 ww_156 ww_40 ww_157 mm_rmR (by decide +kernel)) <|
  mm_at_cons (ok_aload_n (k := 2) (by decide +kernel) rfl) <|
  mm_at_cons (ok_getf (ci := 0) (k := 0) (idx := 81) rfl ct_in0 (by decide) ww_109 rfl rfl (by decide +kernel)) <|
  mm_at_nil
theorem ro_Yd_placeOutOfTheWay : mm_RtOk prog_5_method_17_code (some .int) rt_Yd_placeOutOfTheWay :=
  mm_rt_cons (Or.inr (Or.inl ⟨rfl, rfl, by decide +kernel⟩)) <|
  mm_rt_cons (Or.inr (Or.inl ⟨rfl, rfl, by decide +kernel⟩)) <|
  mm_rt_cons (Or.inr (Or.inl ⟨rfl, rfl, by decide +kernel⟩)) <|
  mm_rt_nil
set_option maxRecDepth 100000 in
set_option maxHeartbeats 4000000 in
theorem po_Yd_moveToward (hS : mm_Sound ct_GW ct_NW D ct_cl (ct_tys cA) ad cA ct_K ct_kd ct_N l ct_T (mm_rm d) S) : ∀ pc f, mm_at pg_Yd_moveToward pc = some f → mm_Ok ct_GW ct_NW D ct_cl (ct_tys cA) ad cA ct_K ct_kd ct_N l (mm_rm (d + 1)) "CraneTurns$Yard" prog_5_method_18_code 4 S pc f :=
  mm_at_cons (ok_aload_n (k := 0) (by decide +kernel) rfl) <|
  mm_at_cons (ok_getr (ck := 10) (off := 1) (ci := 3) (k := 9) (idx := 17) rfl ct_in3 (by decide) ww_90 rfl rfl (by decide +kernel)) <|
  mm_at_cons (ok_iload_n (k := 1) (by decide +kernel) rfl) <|
  mm_at_cons (ok_aald (t9 := 2) (C := "CraneTurns$Crane") (by decide) rfl rfl (by decide +kernel)) <|
  mm_at_cons (ok_astore_n (k := 3) (by decide +kernel) rfl) <|
  mm_at_cons (ok_iload_n (k := 2) (by decide +kernel) rfl) <|
  mm_at_cons (ok_aload_n (k := 3) (by decide +kernel) rfl) <|
  mm_at_cons (ok_getf (ci := 0) (k := 0) (idx := 81) rfl ct_in0 (by decide) ww_109 rfl rfl (by decide +kernel)) <|
  mm_at_cons (ok_icmp_le (off := 31) (by decide +kernel) (by decide)) <|
  mm_at_cons (ok_aload_n (k := 3) (by decide +kernel) rfl) <|
  mm_at_cons (ok_iload_n (k := 2) (by decide +kernel) rfl) <|
  mm_at_cons (ok_aload_n (k := 3) (by decide +kernel) rfl) <|
  mm_at_cons (ok_getf (ci := 0) (k := 0) (idx := 81) rfl ct_in0 (by decide) ww_109 rfl rfl (by decide +kernel)) <|
  mm_at_cons (ok_aload_n (k := 0) (by decide +kernel) rfl) <|
  mm_at_cons (ok_getf (ci := 3) (k := 2) (idx := 35) rfl ct_in3 (by decide) ww_88 rfl rfl (by decide +kernel)) <|
  mm_at_cons (ok_iadd (by decide +kernel)) <|
  mm_at_cons (ok_min (idx := 101) ww_122 ww_39 ww_40 ww_41 mm_rmR (by decide +kernel)) <|
  mm_at_cons (ok_aload_n (k := 0) (by decide +kernel) rfl) <|
  mm_at_cons (ok_iload_n (k := 1) (by decide +kernel) rfl) <|
  mm_at_cons (ok_callV (z := 22) (ci := 3) (idx := 88) rfl hS ⟨rfl, rfl⟩ (mm_rmok (by decide)) rfl ct_good ww_113 (mm_4 ww_114 ww_115 sel_22 ww_37) (by decide +kernel) (by decide +kernel)) <|
  mm_at_cons (ok_min (idx := 101) ww_122 ww_39 ww_40 ww_41 mm_rmR (by decide +kernel)) <|
  mm_at_cons (ok_putf (ci := 0) (k := 0) (idx := 81) rfl ct_in0 (by decide) ww_109 rfl ct_ty0 ct_tyok0 ct_nm0 rfl (by decide +kernel) rfl (by decide +kernel)) <|
  mm_at_cons (ok_goto (off := 36) (by decide +kernel) (by decide)) <|
  mm_at_cons (ok_iload_n (k := 2) (by decide +kernel) rfl) <|
  mm_at_cons (ok_aload_n (k := 3) (by decide +kernel) rfl) <|
  mm_at_cons (ok_getf (ci := 0) (k := 0) (idx := 81) rfl ct_in0 (by decide) ww_109 rfl rfl (by decide +kernel)) <|
  mm_at_cons (ok_icmp_ge (off := 28) (by decide +kernel) (by decide)) <|
  mm_at_cons (ok_aload_n (k := 3) (by decide +kernel) rfl) <|
  mm_at_cons (ok_iload_n (k := 2) (by decide +kernel) rfl) <|
  mm_at_cons (ok_aload_n (k := 3) (by decide +kernel) rfl) <|
  mm_at_cons (ok_getf (ci := 0) (k := 0) (idx := 81) rfl ct_in0 (by decide) ww_109 rfl rfl (by decide +kernel)) <|
  mm_at_cons (ok_aload_n (k := 0) (by decide +kernel) rfl) <|
  mm_at_cons (ok_getf (ci := 3) (k := 2) (idx := 35) rfl ct_in3 (by decide) ww_88 rfl rfl (by decide +kernel)) <|
  mm_at_cons (ok_isub (by decide +kernel)) <|
  mm_at_cons (ok_max (idx := 161) ww_155 ww_156 ww_40 ww_157 mm_rmR (by decide +kernel)) <|
  mm_at_cons (ok_aload_n (k := 0) (by decide +kernel) rfl) <|
  mm_at_cons (ok_iload_n (k := 1) (by decide +kernel) rfl) <|
  mm_at_cons (ok_callV (z := 21) (ci := 3) (idx := 84) rfl hS ⟨rfl, rfl⟩ (mm_rmok (by decide)) rfl ct_good ww_110 (mm_4 ww_111 ww_112 sel_21 ww_37) (by decide +kernel) (by decide +kernel)) <|
  mm_at_cons (ok_max (idx := 161) ww_155 ww_156 ww_40 ww_157 mm_rmR (by decide +kernel)) <|
  mm_at_cons (ok_putf (ci := 0) (k := 0) (idx := 81) rfl ct_in0 (by decide) ww_109 rfl ct_ty0 ct_tyok0 ct_nm0 rfl (by decide +kernel) rfl (by decide +kernel)) <|
  mm_at_nil
theorem ro_Yd_moveToward : mm_RtOk prog_5_method_18_code (none) rt_Yd_moveToward :=
  mm_rt_cons (Or.inl ⟨rfl, rfl, by decide +kernel⟩) <|
  mm_rt_nil
set_option maxRecDepth 100000 in
set_option maxHeartbeats 4000000 in
theorem po_Yd_copyOf (hS : mm_Sound ct_GW ct_NW D ct_cl (ct_tys cA) ad cA ct_K ct_kd ct_N l ct_T (mm_rm d) S) : ∀ pc f, mm_at pg_Yd_copyOf pc = some f → mm_Ok ct_GW ct_NW D ct_cl (ct_tys cA) ad cA ct_K ct_kd ct_N l (mm_rm (d + 1)) "CraneTurns$Yard" prog_5_method_19_code 3 S pc f :=
  mm_at_cons (ok_aload_n (k := 0) (by decide +kernel) rfl) <|
  mm_at_cons (ok_aload_n (k := 1) (by decide +kernel) rfl) <|
  mm_at_cons (ok_getf (ci := 3) (k := 0) (idx := 29) rfl ct_in3 (by decide) ww_86 rfl rfl (by decide +kernel)) <|
  mm_at_cons (ok_putf (ci := 3) (k := 0) (idx := 29) rfl ct_in3 (by decide) ww_86 rfl ct_ty3 ct_tyok3 ct_nm3 rfl (by decide +kernel) rfl (by decide +kernel)) <|
  mm_at_cons (ok_aload_n (k := 0) (by decide +kernel) rfl) <|
  mm_at_cons (ok_aload_n (k := 1) (by decide +kernel) rfl) <|
  mm_at_cons (ok_getf (ci := 3) (k := 1) (idx := 32) rfl ct_in3 (by decide) ww_87 rfl rfl (by decide +kernel)) <|
  mm_at_cons (ok_putf (ci := 3) (k := 1) (idx := 32) rfl ct_in3 (by decide) ww_87 rfl ct_ty3 ct_tyok3 ct_nm3 rfl (by decide +kernel) rfl (by decide +kernel)) <|
  mm_at_cons (ok_aload_n (k := 0) (by decide +kernel) rfl) <|
  mm_at_cons (ok_aload_n (k := 1) (by decide +kernel) rfl) <|
  mm_at_cons (ok_getf (ci := 3) (k := 2) (idx := 35) rfl ct_in3 (by decide) ww_88 rfl rfl (by decide +kernel)) <|
  mm_at_cons (ok_putf (ci := 3) (k := 2) (idx := 35) rfl ct_in3 (by decide) ww_88 rfl ct_ty3 ct_tyok3 ct_nm3 rfl (by decide +kernel) rfl (by decide +kernel)) <|
  mm_at_cons (ok_aload_n (k := 0) (by decide +kernel) rfl) <|
  mm_at_cons (ok_aload_n (k := 1) (by decide +kernel) rfl) <|
  mm_at_cons (ok_getf (ci := 3) (k := 3) (idx := 38) rfl ct_in3 (by decide) ww_89 rfl rfl (by decide +kernel)) <|
  mm_at_cons (ok_putf (ci := 3) (k := 3) (idx := 38) rfl ct_in3 (by decide) ww_89 rfl ct_ty3 ct_tyok3 ct_nm3 rfl (by decide +kernel) rfl (by decide +kernel)) <|
  mm_at_cons (ok_aload_n (k := 0) (by decide +kernel) rfl) <|
  mm_at_cons (ok_aload_n (k := 1) (by decide +kernel) rfl) <|
  mm_at_cons (ok_getf (ci := 3) (k := 4) (idx := 98) rfl ct_in3 (by decide) ww_120 rfl rfl (by decide +kernel)) <|
  mm_at_cons (ok_putf (ci := 3) (k := 4) (idx := 98) rfl ct_in3 (by decide) ww_120 rfl ct_ty3 ct_tyok3 ct_nm3 rfl (by decide +kernel) rfl (by decide +kernel)) <|
  mm_at_cons (ok_aload_n (k := 0) (by decide +kernel) rfl) <|
  mm_at_cons (ok_aload_n (k := 1) (by decide +kernel) rfl) <|
  mm_at_cons (ok_getf (ci := 3) (k := 5) (idx := 9) rfl ct_in3 (by decide) ww_121 rfl rfl (by decide +kernel)) <|
  mm_at_cons (ok_putf (ci := 3) (k := 5) (idx := 9) rfl ct_in3 (by decide) ww_121 rfl ct_ty3 ct_tyok3 ct_nm3 rfl (by decide +kernel) rfl (by decide +kernel)) <|
  mm_at_cons (ok_aload_n (k := 0) (by decide +kernel) rfl) <|
  mm_at_cons (ok_aload_n (k := 1) (by decide +kernel) rfl) <|
  mm_at_cons (ok_getf (ci := 3) (k := 6) (idx := 45) rfl ct_in3 (by decide) ww_92 rfl rfl (by decide +kernel)) <|
  mm_at_cons (ok_putf (ci := 3) (k := 6) (idx := 45) rfl ct_in3 (by decide) ww_92 rfl ct_ty3 ct_tyok3 ct_nm3 rfl (by decide +kernel) rfl (by decide +kernel)) <|
  mm_at_cons (ok_aload_n (k := 0) (by decide +kernel) rfl) <|
  mm_at_cons (ok_aload_n (k := 1) (by decide +kernel) rfl) <|
  mm_at_cons (ok_getf (ci := 3) (k := 7) (idx := 57) rfl ct_in3 (by decide) ww_97 rfl rfl (by decide +kernel)) <|
  mm_at_cons (ok_putf (ci := 3) (k := 7) (idx := 57) rfl ct_in3 (by decide) ww_97 rfl ct_ty3 ct_tyok3 ct_nm3 rfl (by decide +kernel) rfl (by decide +kernel)) <|
  mm_at_cons (ok_aload_n (k := 0) (by decide +kernel) rfl) <|
  mm_at_cons (ok_aload_n (k := 1) (by decide +kernel) rfl) <|
  mm_at_cons (ok_getf (ci := 3) (k := 8) (idx := 70) rfl ct_in3 (by decide) ww_104 rfl rfl (by decide +kernel)) <|
  mm_at_cons (ok_putz (ci := 3) (k := 8) (idx := 70) rfl ct_in3 (by decide) ww_104 rfl ct_ty3 ct_tyok3 ct_nm3 rfl (by decide +kernel) rfl (by decide +kernel)) <|
  mm_at_cons (ok_iconst (n := 0) (by decide +kernel) (by decide)) <|
  mm_at_cons (ok_istore_n (k := 2) (by decide +kernel) rfl) <|
  mm_at_cons (ok_iload_n (k := 2) (by decide +kernel) rfl) <|
  mm_at_cons (ok_aload_n (k := 0) (by decide +kernel) rfl) <|
  mm_at_cons (ok_getf (ci := 3) (k := 0) (idx := 29) rfl ct_in3 (by decide) ww_86 rfl rfl (by decide +kernel)) <|
  mm_at_cons (ok_icmp_ge (off := 24) (by decide +kernel) (by decide)) <|
  mm_at_cons (ok_aload_n (k := 0) (by decide +kernel) rfl) <|
  mm_at_cons (ok_getr (ck := 10) (off := 1) (ci := 3) (k := 9) (idx := 17) rfl ct_in3 (by decide) ww_90 rfl rfl (by decide +kernel)) <|
  mm_at_cons (ok_iload_n (k := 2) (by decide +kernel) rfl) <|
  mm_at_cons (ok_aald (t9 := 2) (C := "CraneTurns$Crane") (by decide) rfl rfl (by decide +kernel)) <|
  mm_at_cons (ok_aload_n (k := 1) (by decide +kernel) rfl) <|
  mm_at_cons (ok_getr (ck := 10) (off := 1) (ci := 3) (k := 9) (idx := 17) rfl ct_in3 (by decide) ww_90 rfl rfl (by decide +kernel)) <|
  mm_at_cons (ok_iload_n (k := 2) (by decide +kernel) rfl) <|
  mm_at_cons (ok_aald (t9 := 2) (C := "CraneTurns$Crane") (by decide) rfl rfl (by decide +kernel)) <|
  mm_at_cons (ok_callV (z := 7) (ci := 0) (idx := 164) rfl hS ⟨rfl, rfl⟩ (mm_rmok (by decide)) rfl ct_good ww_158 (mm_4 ww_160 ww_161 ww_159 ww_17) (by decide +kernel) (by decide +kernel)) <|
  mm_at_cons (ok_iinc (n := 1) (by decide +kernel) (by decide)) <|
  mm_at_cons (ok_goto (off := (-26)) (by decide +kernel) (by decide)) <|
  mm_at_cons (ok_iconst (n := 0) (by decide +kernel) (by decide)) <|
  mm_at_cons (ok_istore_n (k := 2) (by decide +kernel) rfl) <|
  mm_at_cons (ok_iload_n (k := 2) (by decide +kernel) rfl) <|
  mm_at_cons (ok_aload_n (k := 0) (by decide +kernel) rfl) <|
  mm_at_cons (ok_getf (ci := 3) (k := 6) (idx := 45) rfl ct_in3 (by decide) ww_92 rfl rfl (by decide +kernel)) <|
  mm_at_cons (ok_icmp_ge (off := 24) (by decide +kernel) (by decide)) <|
  mm_at_cons (ok_aload_n (k := 0) (by decide +kernel) rfl) <|
  mm_at_cons (ok_getr (ck := 11) (off := 2) (ci := 3) (k := 10) (idx := 23) rfl ct_in3 (by decide) ww_93 rfl rfl (by decide +kernel)) <|
  mm_at_cons (ok_iload_n (k := 2) (by decide +kernel) rfl) <|
  mm_at_cons (ok_aald (t9 := 3) (C := "CraneTurns$Job") (by decide) rfl rfl (by decide +kernel)) <|
  mm_at_cons (ok_aload_n (k := 1) (by decide +kernel) rfl) <|
  mm_at_cons (ok_getr (ck := 11) (off := 2) (ci := 3) (k := 10) (idx := 23) rfl ct_in3 (by decide) ww_93 rfl rfl (by decide +kernel)) <|
  mm_at_cons (ok_iload_n (k := 2) (by decide +kernel) rfl) <|
  mm_at_cons (ok_aald (t9 := 3) (C := "CraneTurns$Job") (by decide) rfl rfl (by decide +kernel)) <|
  mm_at_cons (ok_callV (z := 8) (ci := 1) (idx := 167) rfl hS ⟨rfl, rfl⟩ (mm_rmok (by decide)) rfl ct_good ww_162 (mm_4 ww_164 ww_165 ww_163 ww_166) (by decide +kernel) (by decide +kernel)) <|
  mm_at_cons (ok_iinc (n := 1) (by decide +kernel) (by decide)) <|
  mm_at_cons (ok_goto (off := (-26)) (by decide +kernel) (by decide)) <|
  mm_at_nil
theorem ro_Yd_copyOf : mm_RtOk prog_5_method_19_code (none) rt_Yd_copyOf :=
  mm_rt_cons (Or.inl ⟨rfl, rfl, by decide +kernel⟩) <|
  mm_rt_nil
set_option maxRecDepth 100000 in
set_option maxHeartbeats 4000000 in
theorem po_Mo_thrown (hS : mm_Sound ct_GW ct_NW D ct_cl (ct_tys cA) ad cA ct_K ct_kd ct_N l ct_T (mm_rm d) S) : ∀ pc f, mm_at pg_Mo_thrown pc = some f → mm_Ok ct_GW ct_NW D ct_cl (ct_tys cA) ad cA ct_K ct_kd ct_N l (mm_rm (d + 1)) "CraneTurnsModel" prog_7_method_2_code 1 S pc f :=
  mm_at_cons (ok_aload_n (k := 0) (by decide +kernel) rfl) <|
  mm_at_cons (ok_getf (ci := 5) (k := 0) (idx := 28) rfl ct_in5 (by decide) ww_167 rfl rfl (by decide +kernel)) <|
  mm_at_nil
theorem ro_Mo_thrown : mm_RtOk prog_7_method_2_code (some .int) rt_Mo_thrown :=
  mm_rt_cons (Or.inr (Or.inl ⟨rfl, rfl, by decide +kernel⟩)) <|
  mm_rt_nil
set_option maxRecDepth 100000 in
set_option maxHeartbeats 4000000 in
theorem po_Mo_throwing (hS : mm_Sound ct_GW ct_NW D ct_cl (ct_tys cA) ad cA ct_K ct_kd ct_N l ct_T (mm_rm d) S) : ∀ pc f, mm_at pg_Mo_throwing pc = some f → mm_Ok ct_GW ct_NW D ct_cl (ct_tys cA) ad cA ct_K ct_kd ct_N l (mm_rm (d + 1)) "CraneTurnsModel" prog_7_method_3_code 5 S pc f :=
  mm_at_cons (ok_aload_n (k := 0) (by decide +kernel) rfl) <|
  mm_at_cons (ok_iload_n (k := 1) (by decide +kernel) rfl) <|
  mm_at_cons (ok_if_eq (off := 7) (by decide +kernel) (by decide)) <|
  mm_at_cons (ok_iconst (n := 1) (by decide +kernel) (by decide)) <|
  mm_at_cons (ok_goto (off := 29) (by decide +kernel) (by decide)) <|
  mm_at_cons (ok_iload_n (k := 2) (by decide +kernel) rfl) <|
  mm_at_cons (ok_if_eq (off := 7) (by decide +kernel) (by decide)) <|
  mm_at_cons (ok_iconst (n := 2) (by decide +kernel) (by decide)) <|
  mm_at_cons (ok_goto (off := 21) (by decide +kernel) (by decide)) <|
  mm_at_cons (ok_iload_n (k := 3) (by decide +kernel) rfl) <|
  mm_at_cons (ok_if_eq (off := 7) (by decide +kernel) (by decide)) <|
  mm_at_cons (ok_iconst (n := 3) (by decide +kernel) (by decide)) <|
  mm_at_cons (ok_goto (off := 13) (by decide +kernel) (by decide)) <|
  mm_at_cons (ok_iload (by decide +kernel)) <|
  mm_at_cons (ok_if_eq (off := 7) (by decide +kernel) (by decide)) <|
  mm_at_cons (ok_iconst (n := 4) (by decide +kernel) (by decide)) <|
  mm_at_cons (ok_goto (off := 4) (by decide +kernel) (by decide)) <|
  mm_at_cons (ok_iconst (n := 0) (by decide +kernel) (by decide)) <|
  mm_at_cons (ok_putf (ci := 5) (k := 0) (idx := 28) rfl ct_in5 (by decide) ww_167 rfl ct_ty5 ct_tyok5 ct_nm5 rfl (by decide +kernel) rfl (by decide +kernel)) <|
  mm_at_cons (ok_aload_n (k := 0) (by decide +kernel) rfl) <|
  mm_at_cons (ok_getf (ci := 5) (k := 0) (idx := 28) rfl ct_in5 (by decide) ww_167 rfl rfl (by decide +kernel)) <|
  mm_at_cons (ok_if_le (off := 7) (by decide +kernel) (by decide)) <|
  mm_at_cons (ok_iconst (n := 1) (by decide +kernel) (by decide)) <|
  mm_at_cons (ok_goto (off := 4) (by decide +kernel) (by decide)) <|
  mm_at_cons (ok_iconst (n := 0) (by decide +kernel) (by decide)) <|
  mm_at_nil
theorem ro_Mo_throwing : mm_RtOk prog_7_method_3_code (some .boolean) rt_Mo_throwing :=
  mm_rt_cons (Or.inr (Or.inr ⟨rfl, rfl, by decide +kernel⟩)) <|
  mm_rt_nil
set_option maxRecDepth 100000 in
set_option maxHeartbeats 4000000 in
theorem po_Mo_in (hS : mm_Sound ct_GW ct_NW D ct_cl (ct_tys cA) ad cA ct_K ct_kd ct_N l ct_T (mm_rm d) S) : ∀ pc f, mm_at pg_Mo_in pc = some f → mm_Ok ct_GW ct_NW D ct_cl (ct_tys cA) ad cA ct_K ct_kd ct_N l (mm_rm (d + 1)) "CraneTurnsModel" prog_7_method_4_code 3 S pc f :=
  mm_at_cons (ok_iload_n (k := 0) (by decide +kernel) rfl) <|
  mm_at_cons (ok_iload_n (k := 1) (by decide +kernel) rfl) <|
  mm_at_cons (ok_icmp_lt (off := 12) (by decide +kernel) (by decide)) <|
  mm_at_cons (ok_iload_n (k := 0) (by decide +kernel) rfl) <|
  mm_at_cons (ok_iload_n (k := 2) (by decide +kernel) rfl) <|
  mm_at_cons (ok_icmp_gt (off := 7) (by decide +kernel) (by decide)) <|
  mm_at_cons (ok_iconst (n := 1) (by decide +kernel) (by decide)) <|
  mm_at_cons (ok_goto (off := 4) (by decide +kernel) (by decide)) <|
  mm_at_cons (ok_iconst (n := 0) (by decide +kernel) (by decide)) <|
  mm_at_nil
theorem ro_Mo_in : mm_RtOk prog_7_method_4_code (some .boolean) rt_Mo_in :=
  mm_rt_cons (Or.inr (Or.inr ⟨rfl, rfl, by decide +kernel⟩)) <|
  mm_rt_nil
set_option maxRecDepth 100000 in
set_option maxHeartbeats 4000000 in
theorem po_Mo_isCrane (hS : mm_Sound ct_GW ct_NW D ct_cl (ct_tys cA) ad cA ct_K ct_kd ct_N l ct_T (mm_rm d) S) : ∀ pc f, mm_at pg_Mo_isCrane pc = some f → mm_Ok ct_GW ct_NW D ct_cl (ct_tys cA) ad cA ct_K ct_kd ct_N l (mm_rm (d + 1)) "CraneTurnsModel" prog_7_method_5_code 2 S pc f :=
  mm_at_cons (ok_iload_n (k := 1) (by decide +kernel) rfl) <|
  mm_at_cons (ok_iconst (n := 0) (by decide +kernel) (by decide)) <|
  mm_at_cons (ok_aload_n (k := 0) (by decide +kernel) rfl) <|
  mm_at_cons (ok_getf (ci := 5) (k := 1) (idx := 32) rfl ct_in5 (by decide) ww_168 rfl rfl (by decide +kernel)) <|
  mm_at_cons (ok_iconst (n := 1) (by decide +kernel) (by decide)) <|
  mm_at_cons (ok_isub (by decide +kernel)) <|
  mm_at_cons (ok_callS (z := 35) (idx := 35) hS ⟨rfl, rfl⟩ (mm_rmok (by decide)) ct_good ww_169 (mm_3 ww_170 ww_171 ww_172) (by decide +kernel) (by decide +kernel)) <|
  mm_at_nil
theorem ro_Mo_isCrane : mm_RtOk prog_7_method_5_code (some .boolean) rt_Mo_isCrane :=
  mm_rt_cons (Or.inr (Or.inr ⟨rfl, rfl, by decide +kernel⟩)) <|
  mm_rt_nil
set_option maxRecDepth 100000 in
set_option maxHeartbeats 4000000 in
theorem po_Mo_isJob (hS : mm_Sound ct_GW ct_NW D ct_cl (ct_tys cA) ad cA ct_K ct_kd ct_N l ct_T (mm_rm d) S) : ∀ pc f, mm_at pg_Mo_isJob pc = some f → mm_Ok ct_GW ct_NW D ct_cl (ct_tys cA) ad cA ct_K ct_kd ct_N l (mm_rm (d + 1)) "CraneTurnsModel" prog_7_method_6_code 2 S pc f :=
  mm_at_cons (ok_iload_n (k := 1) (by decide +kernel) rfl) <|
  mm_at_cons (ok_iconst (n := 0) (by decide +kernel) (by decide)) <|
  mm_at_cons (ok_aload_n (k := 0) (by decide +kernel) rfl) <|
  mm_at_cons (ok_getf (ci := 5) (k := 5) (idx := 39) rfl ct_in5 (by decide) ww_173 rfl rfl (by decide +kernel)) <|
  mm_at_cons (ok_iconst (n := 1) (by decide +kernel) (by decide)) <|
  mm_at_cons (ok_isub (by decide +kernel)) <|
  mm_at_cons (ok_callS (z := 35) (idx := 35) hS ⟨rfl, rfl⟩ (mm_rmok (by decide)) ct_good ww_169 (mm_3 ww_170 ww_171 ww_172) (by decide +kernel) (by decide +kernel)) <|
  mm_at_nil
theorem ro_Mo_isJob : mm_RtOk prog_7_method_6_code (some .boolean) rt_Mo_isJob :=
  mm_rt_cons (Or.inr (Or.inr ⟨rfl, rfl, by decide +kernel⟩)) <|
  mm_rt_nil
set_option maxRecDepth 100000 in
set_option maxHeartbeats 4000000 in
theorem po_Mo_ofCrane (hS : mm_Sound ct_GW ct_NW D ct_cl (ct_tys cA) ad cA ct_K ct_kd ct_N l ct_T (mm_rm d) S) : ∀ pc f, mm_at pg_Mo_ofCrane pc = some f → mm_Ok ct_GW ct_NW D ct_cl (ct_tys cA) ad cA ct_K ct_kd ct_N l (mm_rm (d + 1)) "CraneTurnsModel" prog_7_method_7_code 3 S pc f :=
  mm_at_cons (ok_aload_n (k := 0) (by decide +kernel) rfl) <|
  mm_at_cons (ok_getr (ck := 13) (off := 3) (ci := 5) (k := 8) (idx := 16) rfl ct_in5 (by decide) ww_174 rfl rfl (by decide +kernel)) <|
  mm_at_cons (ok_bipush (n := 10) (by decide +kernel) (by decide)) <|
  mm_at_cons (ok_bipush (n := 10) (by decide +kernel) (by decide)) <|
  mm_at_cons (ok_iload_n (k := 1) (by decide +kernel) rfl) <|
  mm_at_cons (ok_imul (by decide +kernel)) <|
  mm_at_cons (ok_iadd (by decide +kernel)) <|
  mm_at_cons (ok_iload_n (k := 2) (by decide +kernel) rfl) <|
  mm_at_cons (ok_iadd (by decide +kernel)) <|
  mm_at_cons (ok_iald (t9 := 0) (by decide) rfl rfl (by decide +kernel)) <|
  mm_at_nil
theorem ro_Mo_ofCrane : mm_RtOk prog_7_method_7_code (some .int) rt_Mo_ofCrane :=
  mm_rt_cons (Or.inr (Or.inl ⟨rfl, rfl, by decide +kernel⟩)) <|
  mm_rt_nil
end
end
section
section
variable {D : va_G} {ad : Nat → Nat} {cA : Nat → ClassId} {l : Launch} {d : Nat} {S : mm_S}
set_option maxRecDepth 100000 in
set_option maxHeartbeats 4000000 in
theorem po_Mo_setCrane (hS : mm_Sound ct_GW ct_NW D ct_cl (ct_tys cA) ad cA ct_K ct_kd ct_N l ct_T (mm_rm d) S) : ∀ pc f, mm_at pg_Mo_setCrane pc = some f → mm_Ok ct_GW ct_NW D ct_cl (ct_tys cA) ad cA ct_K ct_kd ct_N l (mm_rm (d + 1)) "CraneTurnsModel" prog_7_method_8_code 4 S pc f :=
  mm_at_cons (ok_aload_n (k := 0) (by decide +kernel) rfl) <|
  mm_at_cons (ok_getr (ck := 13) (off := 3) (ci := 5) (k := 8) (idx := 16) rfl ct_in5 (by decide) ww_174 rfl rfl (by decide +kernel)) <|
  mm_at_cons (ok_bipush (n := 10) (by decide +kernel) (by decide)) <|
  mm_at_cons (ok_bipush (n := 10) (by decide +kernel) (by decide)) <|
  mm_at_cons (ok_iload_n (k := 1) (by decide +kernel) rfl) <|
  mm_at_cons (ok_imul (by decide +kernel)) <|
  mm_at_cons (ok_iadd (by decide +kernel)) <|
  mm_at_cons (ok_iload_n (k := 2) (by decide +kernel) rfl) <|
  mm_at_cons (ok_iadd (by decide +kernel)) <|
  mm_at_cons (ok_iload_n (k := 3) (by decide +kernel) rfl) <|
  mm_at_cons (ok_iast (t9 := 0) (by decide) rfl rfl (by decide +kernel)) <|
  mm_at_nil
theorem ro_Mo_setCrane : mm_RtOk prog_7_method_8_code (none) rt_Mo_setCrane :=
  mm_rt_cons (Or.inl ⟨rfl, rfl, by decide +kernel⟩) <|
  mm_rt_nil
set_option maxRecDepth 100000 in
set_option maxHeartbeats 4000000 in
theorem po_Mo_ofJob (hS : mm_Sound ct_GW ct_NW D ct_cl (ct_tys cA) ad cA ct_K ct_kd ct_N l ct_T (mm_rm d) S) : ∀ pc f, mm_at pg_Mo_ofJob pc = some f → mm_Ok ct_GW ct_NW D ct_cl (ct_tys cA) ad cA ct_K ct_kd ct_N l (mm_rm (d + 1)) "CraneTurnsModel" prog_7_method_9_code 3 S pc f :=
  mm_at_cons (ok_aload_n (k := 0) (by decide +kernel) rfl) <|
  mm_at_cons (ok_getr (ck := 13) (off := 3) (ci := 5) (k := 8) (idx := 16) rfl ct_in5 (by decide) ww_174 rfl rfl (by decide +kernel)) <|
  mm_at_cons (ok_bipush (n := 50) (by decide +kernel) (by decide)) <|
  mm_at_cons (ok_bipush (n := 7) (by decide +kernel) (by decide)) <|
  mm_at_cons (ok_iload_n (k := 1) (by decide +kernel) rfl) <|
  mm_at_cons (ok_imul (by decide +kernel)) <|
  mm_at_cons (ok_iadd (by decide +kernel)) <|
  mm_at_cons (ok_iload_n (k := 2) (by decide +kernel) rfl) <|
  mm_at_cons (ok_iadd (by decide +kernel)) <|
  mm_at_cons (ok_iald (t9 := 0) (by decide) rfl rfl (by decide +kernel)) <|
  mm_at_nil
theorem ro_Mo_ofJob : mm_RtOk prog_7_method_9_code (some .int) rt_Mo_ofJob :=
  mm_rt_cons (Or.inr (Or.inl ⟨rfl, rfl, by decide +kernel⟩)) <|
  mm_rt_nil
set_option maxRecDepth 100000 in
set_option maxHeartbeats 4000000 in
theorem po_Mo_setJob (hS : mm_Sound ct_GW ct_NW D ct_cl (ct_tys cA) ad cA ct_K ct_kd ct_N l ct_T (mm_rm d) S) : ∀ pc f, mm_at pg_Mo_setJob pc = some f → mm_Ok ct_GW ct_NW D ct_cl (ct_tys cA) ad cA ct_K ct_kd ct_N l (mm_rm (d + 1)) "CraneTurnsModel" prog_7_method_10_code 4 S pc f :=
  mm_at_cons (ok_aload_n (k := 0) (by decide +kernel) rfl) <|
  mm_at_cons (ok_getr (ck := 13) (off := 3) (ci := 5) (k := 8) (idx := 16) rfl ct_in5 (by decide) ww_174 rfl rfl (by decide +kernel)) <|
  mm_at_cons (ok_bipush (n := 50) (by decide +kernel) (by decide)) <|
  mm_at_cons (ok_bipush (n := 7) (by decide +kernel) (by decide)) <|
  mm_at_cons (ok_iload_n (k := 1) (by decide +kernel) rfl) <|
  mm_at_cons (ok_imul (by decide +kernel)) <|
  mm_at_cons (ok_iadd (by decide +kernel)) <|
  mm_at_cons (ok_iload_n (k := 2) (by decide +kernel) rfl) <|
  mm_at_cons (ok_iadd (by decide +kernel)) <|
  mm_at_cons (ok_iload_n (k := 3) (by decide +kernel) rfl) <|
  mm_at_cons (ok_iast (t9 := 0) (by decide) rfl rfl (by decide +kernel)) <|
  mm_at_nil
theorem ro_Mo_setJob : mm_RtOk prog_7_method_10_code (none) rt_Mo_setJob :=
  mm_rt_cons (Or.inl ⟨rfl, rfl, by decide +kernel⟩) <|
  mm_rt_nil
set_option maxRecDepth 100000 in
set_option maxHeartbeats 4000000 in
theorem po_Mo_track (hS : mm_Sound ct_GW ct_NW D ct_cl (ct_tys cA) ad cA ct_K ct_kd ct_N l ct_T (mm_rm d) S) : ∀ pc f, mm_at pg_Mo_track pc = some f → mm_Ok ct_GW ct_NW D ct_cl (ct_tys cA) ad cA ct_K ct_kd ct_N l (mm_rm (d + 1)) "CraneTurnsModel" prog_7_method_11_code 7 S pc f :=
  mm_at_cons (ok_iload_n (k := 1) (by decide +kernel) rfl) <|
  mm_at_cons (ok_iconst (n := 1) (by decide +kernel) (by decide)) <|
  mm_at_cons (ok_iconst (n := 3) (by decide +kernel) (by decide)) <|
  mm_at_cons (ok_callS (z := 35) (idx := 35) hS ⟨rfl, rfl⟩ (mm_rmok (by decide)) ct_good ww_169 (mm_3 ww_170 ww_171 ww_172) (by decide +kernel) (by decide +kernel)) <|
  mm_at_cons (ok_if_eq (off := 38) (by decide +kernel) (by decide)) <|
  mm_at_cons (ok_iload_n (k := 2) (by decide +kernel) rfl) <|
  mm_at_cons (ok_iconst (n := 1) (by decide +kernel) (by decide)) <|
  mm_at_cons (ok_bipush (n := 30) (by decide +kernel) (by decide)) <|
  mm_at_cons (ok_callS (z := 35) (idx := 35) hS ⟨rfl, rfl⟩ (mm_rmok (by decide)) ct_good ww_169 (mm_3 ww_170 ww_171 ww_172) (by decide +kernel) (by decide +kernel)) <|
  mm_at_cons (ok_if_eq (off := 28) (by decide +kernel) (by decide)) <|
  mm_at_cons (ok_iload_n (k := 3) (by decide +kernel) rfl) <|
  mm_at_cons (ok_iconst (n := 1) (by decide +kernel) (by decide)) <|
  mm_at_cons (ok_bipush (n := 20) (by decide +kernel) (by decide)) <|
  mm_at_cons (ok_callS (z := 35) (idx := 35) hS ⟨rfl, rfl⟩ (mm_rmok (by decide)) ct_good ww_169 (mm_3 ww_170 ww_171 ww_172) (by decide +kernel) (by decide +kernel)) <|
  mm_at_cons (ok_if_eq (off := 18) (by decide +kernel) (by decide)) <|
  mm_at_cons (ok_iload (by decide +kernel)) <|
  mm_at_cons (ok_iconst (n := 1) (by decide +kernel) (by decide)) <|
  mm_at_cons (ok_bipush (n := 30) (by decide +kernel) (by decide)) <|
  mm_at_cons (ok_callS (z := 35) (idx := 35) hS ⟨rfl, rfl⟩ (mm_rmok (by decide)) ct_good ww_169 (mm_3 ww_170 ww_171 ww_172) (by decide +kernel) (by decide +kernel)) <|
  mm_at_cons (ok_if_eq (off := 7) (by decide +kernel) (by decide)) <|
  mm_at_cons (ok_iconst (n := 1) (by decide +kernel) (by decide)) <|
  mm_at_cons (ok_goto (off := 4) (by decide +kernel) (by decide)) <|
  mm_at_cons (ok_iconst (n := 0) (by decide +kernel) (by decide)) <|
  mm_at_cons (ok_istore (by decide +kernel)) <|
  mm_at_cons (ok_aload_n (k := 0) (by decide +kernel) rfl) <|
  mm_at_cons (ok_aload_n (k := 0) (by decide +kernel) rfl) <|
  mm_at_cons (ok_getf (ci := 5) (k := 1) (idx := 32) rfl ct_in5 (by decide) ww_168 rfl rfl (by decide +kernel)) <|
  mm_at_cons (ok_if_le (off := 7) (by decide +kernel) (by decide)) <|
  mm_at_cons (ok_iconst (n := 1) (by decide +kernel) (by decide)) <|
  mm_at_cons (ok_goto (off := 4) (by decide +kernel) (by decide)) <|
  mm_at_cons (ok_iconst (n := 0) (by decide +kernel) (by decide)) <|
  mm_at_cons (ok_iload (by decide +kernel)) <|
  mm_at_cons (ok_if_ne (off := 7) (by decide +kernel) (by decide)) <|
  mm_at_cons (ok_iconst (n := 1) (by decide +kernel) (by decide)) <|
  mm_at_cons (ok_goto (off := 4) (by decide +kernel) (by decide)) <|
  mm_at_cons (ok_iconst (n := 0) (by decide +kernel) (by decide)) <|
  mm_at_cons (ok_iconst (n := 0) (by decide +kernel) (by decide)) <|
  mm_at_cons (ok_iconst (n := 0) (by decide +kernel) (by decide)) <|
  mm_at_cons (ok_callV (z := 34) (ci := 5) (idx := 42) rfl hS ⟨rfl, rfl⟩ (mm_rmok (by decide)) rfl ct_good ww_175 (mm_4 ww_176 ww_177 sel_34 ww_172) (by decide +kernel) (by decide +kernel)) <|
  mm_at_cons (ok_if_eq (off := 4) (by decide +kernel) (by decide)) <|
  mm_at_cons (ok_aload_n (k := 0) (by decide +kernel) rfl) <|
  mm_at_cons (ok_iload_n (k := 1) (by decide +kernel) rfl) <|
  mm_at_cons (ok_putf (ci := 5) (k := 1) (idx := 32) rfl ct_in5 (by decide) ww_168 rfl ct_ty5 ct_tyok5 ct_nm5 rfl (by decide +kernel) rfl (by decide +kernel)) <|
  mm_at_cons (ok_aload_n (k := 0) (by decide +kernel) rfl) <|
  mm_at_cons (ok_iload_n (k := 2) (by decide +kernel) rfl) <|
  mm_at_cons (ok_putf (ci := 5) (k := 2) (idx := 46) rfl ct_in5 (by decide) ww_178 rfl ct_ty5 ct_tyok5 ct_nm5 rfl (by decide +kernel) rfl (by decide +kernel)) <|
  mm_at_cons (ok_aload_n (k := 0) (by decide +kernel) rfl) <|
  mm_at_cons (ok_iload_n (k := 3) (by decide +kernel) rfl) <|
  mm_at_cons (ok_putf (ci := 5) (k := 3) (idx := 49) rfl ct_in5 (by decide) ww_179 rfl ct_ty5 ct_tyok5 ct_nm5 rfl (by decide +kernel) rfl (by decide +kernel)) <|
  mm_at_cons (ok_aload_n (k := 0) (by decide +kernel) rfl) <|
  mm_at_cons (ok_iload (by decide +kernel)) <|
  mm_at_cons (ok_putf (ci := 5) (k := 4) (idx := 52) rfl ct_in5 (by decide) ww_180 rfl ct_ty5 ct_tyok5 ct_nm5 rfl (by decide +kernel) rfl (by decide +kernel)) <|
  mm_at_cons (ok_iconst (n := 0) (by decide +kernel) (by decide)) <|
  mm_at_cons (ok_istore (by decide +kernel)) <|
  mm_at_cons (ok_iload (by decide +kernel)) <|
  mm_at_cons (ok_iload_n (k := 1) (by decide +kernel) rfl) <|
  mm_at_cons (ok_icmp_ge (off := 38) (by decide +kernel) (by decide)) <|
  mm_at_cons (ok_aload_n (k := 0) (by decide +kernel) rfl) <|
  mm_at_cons (ok_iload (by decide +kernel)) <|
  mm_at_cons (ok_iconst (n := 0) (by decide +kernel) (by decide)) <|
  mm_at_cons (ok_iload (by decide +kernel)) <|
  mm_at_cons (ok_iload_n (k := 2) (by decide +kernel) rfl) <|
  mm_at_cons (ok_imul (by decide +kernel)) <|
  mm_at_cons (ok_callV (z := 39) (ci := 5) (idx := 55) rfl hS ⟨rfl, rfl⟩ (mm_rmok (by decide)) rfl ct_good ww_181 (mm_4 ww_182 ww_183 sel_39 ww_172) (by decide +kernel) (by decide +kernel)) <|
  mm_at_cons (ok_aload_n (k := 0) (by decide +kernel) rfl) <|
  mm_at_cons (ok_iload (by decide +kernel)) <|
  mm_at_cons (ok_iconst (n := 2) (by decide +kernel) (by decide)) <|
  mm_at_cons (ok_iconst (n := (-1)) (by decide +kernel) (by decide)) <|
  mm_at_cons (ok_callV (z := 39) (ci := 5) (idx := 55) rfl hS ⟨rfl, rfl⟩ (mm_rmok (by decide)) rfl ct_good ww_181 (mm_4 ww_182 ww_183 sel_39 ww_172) (by decide +kernel) (by decide +kernel)) <|
  mm_at_cons (ok_aload_n (k := 0) (by decide +kernel) rfl) <|
  mm_at_cons (ok_getr (ck := 12) (off := 2) (ci := 5) (k := 7) (idx := 13) rfl ct_in5 (by decide) ww_184 rfl rfl (by decide +kernel)) <|
  mm_at_cons (ok_iload (by decide +kernel)) <|
  mm_at_cons (ok_sipush (n := 200) (by decide +kernel) (by decide)) <|
  mm_at_cons (ok_iast (t9 := 0) (by decide) rfl rfl (by decide +kernel)) <|
  mm_at_cons (ok_iinc (n := 1) (by decide +kernel) (by decide)) <|
  mm_at_cons (ok_goto (off := (-38)) (by decide +kernel) (by decide)) <|
  mm_at_nil
theorem ro_Mo_track : mm_RtOk prog_7_method_11_code (none) rt_Mo_track :=
  mm_rt_cons (Or.inl ⟨rfl, rfl, by decide +kernel⟩) <|
  mm_rt_cons (Or.inl ⟨rfl, rfl, by decide +kernel⟩) <|
  mm_rt_nil
set_option maxRecDepth 100000 in
set_option maxHeartbeats 4000000 in
theorem po_Mo_crane (hS : mm_Sound ct_GW ct_NW D ct_cl (ct_tys cA) ad cA ct_K ct_kd ct_N l ct_T (mm_rm d) S) : ∀ pc f, mm_at pg_Mo_crane pc = some f → mm_Ok ct_GW ct_NW D ct_cl (ct_tys cA) ad cA ct_K ct_kd ct_N l (mm_rm (d + 1)) "CraneTurnsModel" prog_7_method_12_code 8 S pc f :=
  mm_at_cons (ok_aload_n (k := 0) (by decide +kernel) rfl) <|
  mm_at_cons (ok_iload_n (k := 1) (by decide +kernel) rfl) <|
  mm_at_cons (ok_callV (z := 36) (ci := 5) (idx := 59) rfl hS ⟨rfl, rfl⟩ (mm_rmok (by decide)) rfl ct_good ww_185 (mm_4 ww_186 ww_187 sel_36 ww_172) (by decide +kernel) (by decide +kernel)) <|
  mm_at_cons (ok_if_ne (off := 7) (by decide +kernel) (by decide)) <|
  mm_at_cons (ok_iconst (n := 1) (by decide +kernel) (by decide)) <|
  mm_at_cons (ok_goto (off := 4) (by decide +kernel) (by decide)) <|
  mm_at_cons (ok_iconst (n := 0) (by decide +kernel) (by decide)) <|
  mm_at_cons (ok_istore (by decide +kernel)) <|
  mm_at_cons (ok_iload_n (k := 3) (by decide +kernel) rfl) <|
  mm_at_cons (ok_iconst (n := 0) (by decide +kernel) (by decide)) <|
  mm_at_cons (ok_sipush (n := 200) (by decide +kernel) (by decide)) <|
  mm_at_cons (ok_callS (z := 35) (idx := 35) hS ⟨rfl, rfl⟩ (mm_rmok (by decide)) ct_good ww_169 (mm_3 ww_170 ww_171 ww_172) (by decide +kernel) (by decide +kernel)) <|
  mm_at_cons (ok_if_eq (off := 25) (by decide +kernel) (by decide)) <|
  mm_at_cons (ok_iload (by decide +kernel)) <|
  mm_at_cons (ok_iconst (n := 0) (by decide +kernel) (by decide)) <|
  mm_at_cons (ok_sipush (n := 200) (by decide +kernel) (by decide)) <|
  mm_at_cons (ok_callS (z := 35) (idx := 35) hS ⟨rfl, rfl⟩ (mm_rmok (by decide)) ct_good ww_169 (mm_3 ww_170 ww_171 ww_172) (by decide +kernel) (by decide +kernel)) <|
  mm_at_cons (ok_if_eq (off := 13) (by decide +kernel) (by decide)) <|
  mm_at_cons (ok_iload_n (k := 2) (by decide +kernel) rfl) <|
  mm_at_cons (ok_iload_n (k := 3) (by decide +kernel) rfl) <|
  mm_at_cons (ok_iload (by decide +kernel)) <|
  mm_at_cons (ok_callS (z := 35) (idx := 35) hS ⟨rfl, rfl⟩ (mm_rmok (by decide)) ct_good ww_169 (mm_3 ww_170 ww_171 ww_172) (by decide +kernel) (by decide +kernel)) <|
  mm_at_cons (ok_if_ne (off := 7) (by decide +kernel) (by decide)) <|
  mm_at_cons (ok_iconst (n := 1) (by decide +kernel) (by decide)) <|
  mm_at_cons (ok_goto (off := 4) (by decide +kernel) (by decide)) <|
  mm_at_cons (ok_iconst (n := 0) (by decide +kernel) (by decide)) <|
  mm_at_cons (ok_istore (by decide +kernel)) <|
  mm_at_cons (ok_iload (by decide +kernel)) <|
  mm_at_cons (ok_if_ne (off := 55) (by decide +kernel) (by decide)) <|
  mm_at_cons (ok_iload_n (k := 1) (by decide +kernel) rfl) <|
  mm_at_cons (ok_if_le (off := 20) (by decide +kernel) (by decide)) <|
  mm_at_cons (ok_iload_n (k := 2) (by decide +kernel) rfl) <|
  mm_at_cons (ok_aload_n (k := 0) (by decide +kernel) rfl) <|
  mm_at_cons (ok_iload_n (k := 1) (by decide +kernel) rfl) <|
  mm_at_cons (ok_iconst (n := 1) (by decide +kernel) (by decide)) <|
  mm_at_cons (ok_isub (by decide +kernel)) <|
  mm_at_cons (ok_iconst (n := 0) (by decide +kernel) (by decide)) <|
  mm_at_cons (ok_callV (z := 38) (ci := 5) (idx := 63) rfl hS ⟨rfl, rfl⟩ (mm_rmok (by decide)) rfl ct_good ww_188 (mm_4 ww_189 ww_190 sel_38 ww_172) (by decide +kernel) (by decide +kernel)) <|
  mm_at_cons (ok_isub (by decide +kernel)) <|
  mm_at_cons (ok_aload_n (k := 0) (by decide +kernel) rfl) <|
  mm_at_cons (ok_getf (ci := 5) (k := 2) (idx := 46) rfl ct_in5 (by decide) ww_178 rfl rfl (by decide +kernel)) <|
  mm_at_cons (ok_icmp_lt (off := 30) (by decide +kernel) (by decide)) <|
  mm_at_cons (ok_iload_n (k := 1) (by decide +kernel) rfl) <|
  mm_at_cons (ok_iconst (n := 1) (by decide +kernel) (by decide)) <|
  mm_at_cons (ok_iadd (by decide +kernel)) <|
  mm_at_cons (ok_aload_n (k := 0) (by decide +kernel) rfl) <|
  mm_at_cons (ok_getf (ci := 5) (k := 1) (idx := 32) rfl ct_in5 (by decide) ww_168 rfl rfl (by decide +kernel)) <|
  mm_at_cons (ok_icmp_ge (off := 24) (by decide +kernel) (by decide)) <|
  mm_at_cons (ok_aload_n (k := 0) (by decide +kernel) rfl) <|
  mm_at_cons (ok_iload_n (k := 1) (by decide +kernel) rfl) <|
  mm_at_cons (ok_iconst (n := 1) (by decide +kernel) (by decide)) <|
  mm_at_cons (ok_iadd (by decide +kernel)) <|
  mm_at_cons (ok_iconst (n := 0) (by decide +kernel) (by decide)) <|
  mm_at_cons (ok_callV (z := 38) (ci := 5) (idx := 63) rfl hS ⟨rfl, rfl⟩ (mm_rmok (by decide)) rfl ct_good ww_188 (mm_4 ww_189 ww_190 sel_38 ww_172) (by decide +kernel) (by decide +kernel)) <|
  mm_at_cons (ok_iload_n (k := 2) (by decide +kernel) rfl) <|
  mm_at_cons (ok_isub (by decide +kernel)) <|
  mm_at_cons (ok_aload_n (k := 0) (by decide +kernel) rfl) <|
  mm_at_cons (ok_getf (ci := 5) (k := 2) (idx := 46) rfl ct_in5 (by decide) ww_178 rfl rfl (by decide +kernel)) <|
  mm_at_cons (ok_icmp_ge (off := 7) (by decide +kernel) (by decide)) <|
  mm_at_cons (ok_iconst (n := 1) (by decide +kernel) (by decide)) <|
  mm_at_cons (ok_goto (off := 4) (by decide +kernel) (by decide)) <|
  mm_at_cons (ok_iconst (n := 0) (by decide +kernel) (by decide)) <|
  mm_at_cons (ok_istore (by decide +kernel)) <|
  mm_at_cons (ok_aload_n (k := 0) (by decide +kernel) rfl) <|
  mm_at_cons (ok_iload (by decide +kernel)) <|
  mm_at_cons (ok_aload_n (k := 0) (by decide +kernel) rfl) <|
  mm_at_cons (ok_getr (ck := 13) (off := 3) (ci := 5) (k := 8) (idx := 16) rfl ct_in5 (by decide) ww_174 rfl rfl (by decide +kernel)) <|
  mm_at_cons (ok_iconst (n := 0) (by decide +kernel) (by decide)) <|
  mm_at_cons (ok_iald (t9 := 0) (by decide) rfl rfl (by decide +kernel)) <|
  mm_at_cons (ok_if_gt (off := 12) (by decide +kernel) (by decide)) <|
  mm_at_cons (ok_aload_n (k := 0) (by decide +kernel) rfl) <|
  mm_at_cons (ok_getr (ck := 13) (off := 3) (ci := 5) (k := 8) (idx := 16) rfl ct_in5 (by decide) ww_174 rfl rfl (by decide +kernel)) <|
  mm_at_cons (ok_iconst (n := 2) (by decide +kernel) (by decide)) <|
  mm_at_cons (ok_iald (t9 := 0) (by decide) rfl rfl (by decide +kernel)) <|
  mm_at_cons (ok_if_le (off := 7) (by decide +kernel) (by decide)) <|
  mm_at_cons (ok_iconst (n := 1) (by decide +kernel) (by decide)) <|
  mm_at_cons (ok_goto (off := 4) (by decide +kernel) (by decide)) <|
  mm_at_cons (ok_iconst (n := 0) (by decide +kernel) (by decide)) <|
  mm_at_cons (ok_iload (by decide +kernel)) <|
  mm_at_cons (ok_iload (by decide +kernel)) <|
  mm_at_cons (ok_callV (z := 34) (ci := 5) (idx := 42) rfl hS ⟨rfl, rfl⟩ (mm_rmok (by decide)) rfl ct_good ww_175 (mm_4 ww_176 ww_177 sel_34 ww_172) (by decide +kernel) (by decide +kernel)) <|
  mm_at_cons (ok_if_eq (off := 4) (by decide +kernel) (by decide)) <|
  mm_at_cons (ok_aload_n (k := 0) (by decide +kernel) rfl) <|
  mm_at_cons (ok_iload_n (k := 1) (by decide +kernel) rfl) <|
  mm_at_cons (ok_iconst (n := 0) (by decide +kernel) (by decide)) <|
  mm_at_cons (ok_iload_n (k := 2) (by decide +kernel) rfl) <|
  mm_at_cons (ok_callV (z := 39) (ci := 5) (idx := 55) rfl hS ⟨rfl, rfl⟩ (mm_rmok (by decide)) rfl ct_good ww_181 (mm_4 ww_182 ww_183 sel_39 ww_172) (by decide +kernel) (by decide +kernel)) <|
  mm_at_cons (ok_aload_n (k := 0) (by decide +kernel) rfl) <|
  mm_at_cons (ok_getr (ck := 12) (off := 1) (ci := 5) (k := 6) (idx := 7) rfl ct_in5 (by decide) ww_191 rfl rfl (by decide +kernel)) <|
  mm_at_cons (ok_iload_n (k := 1) (by decide +kernel) rfl) <|
  mm_at_cons (ok_iload_n (k := 3) (by decide +kernel) rfl) <|
  mm_at_cons (ok_iast (t9 := 0) (by decide) rfl rfl (by decide +kernel)) <|
  mm_at_cons (ok_aload_n (k := 0) (by decide +kernel) rfl) <|
  mm_at_cons (ok_getr (ck := 12) (off := 2) (ci := 5) (k := 7) (idx := 13) rfl ct_in5 (by decide) ww_184 rfl rfl (by decide +kernel)) <|
  mm_at_cons (ok_iload_n (k := 1) (by decide +kernel) rfl) <|
  mm_at_cons (ok_iload (by decide +kernel)) <|
  mm_at_cons (ok_iast (t9 := 0) (by decide) rfl rfl (by decide +kernel)) <|
  mm_at_nil
theorem ro_Mo_crane : mm_RtOk prog_7_method_12_code (none) rt_Mo_crane :=
  mm_rt_cons (Or.inl ⟨rfl, rfl, by decide +kernel⟩) <|
  mm_rt_cons (Or.inl ⟨rfl, rfl, by decide +kernel⟩) <|
  mm_rt_nil
set_option maxRecDepth 100000 in
set_option maxHeartbeats 4000000 in
theorem po_Mo_job (hS : mm_Sound ct_GW ct_NW D ct_cl (ct_tys cA) ad cA ct_K ct_kd ct_N l ct_T (mm_rm d) S) : ∀ pc f, mm_at pg_Mo_job pc = some f → mm_Ok ct_GW ct_NW D ct_cl (ct_tys cA) ad cA ct_K ct_kd ct_N l (mm_rm (d + 1)) "CraneTurnsModel" prog_7_method_13_code 5 S pc f :=
  mm_at_cons (ok_iload_n (k := 1) (by decide +kernel) rfl) <|
  mm_at_cons (ok_iconst (n := 0) (by decide +kernel) (by decide)) <|
  mm_at_cons (ok_sipush (n := 200) (by decide +kernel) (by decide)) <|
  mm_at_cons (ok_callS (z := 35) (idx := 35) hS ⟨rfl, rfl⟩ (mm_rmok (by decide)) ct_good ww_169 (mm_3 ww_170 ww_171 ww_172) (by decide +kernel) (by decide +kernel)) <|
  mm_at_cons (ok_if_eq (off := 29) (by decide +kernel) (by decide)) <|
  mm_at_cons (ok_iload_n (k := 2) (by decide +kernel) rfl) <|
  mm_at_cons (ok_iconst (n := 0) (by decide +kernel) (by decide)) <|
  mm_at_cons (ok_sipush (n := 200) (by decide +kernel) (by decide)) <|
  mm_at_cons (ok_callS (z := 35) (idx := 35) hS ⟨rfl, rfl⟩ (mm_rmok (by decide)) ct_good ww_169 (mm_3 ww_170 ww_171 ww_172) (by decide +kernel) (by decide +kernel)) <|
  mm_at_cons (ok_if_eq (off := 18) (by decide +kernel) (by decide)) <|
  mm_at_cons (ok_iload_n (k := 3) (by decide +kernel) rfl) <|
  mm_at_cons (ok_iconst (n := 0) (by decide +kernel) (by decide)) <|
  mm_at_cons (ok_sipush (n := 5000) (by decide +kernel) (by decide)) <|
  mm_at_cons (ok_callS (z := 35) (idx := 35) hS ⟨rfl, rfl⟩ (mm_rmok (by decide)) ct_good ww_169 (mm_3 ww_170 ww_171 ww_172) (by decide +kernel) (by decide +kernel)) <|
  mm_at_cons (ok_if_eq (off := 7) (by decide +kernel) (by decide)) <|
  mm_at_cons (ok_iconst (n := 1) (by decide +kernel) (by decide)) <|
  mm_at_cons (ok_goto (off := 4) (by decide +kernel) (by decide)) <|
  mm_at_cons (ok_iconst (n := 0) (by decide +kernel) (by decide)) <|
  mm_at_cons (ok_istore (by decide +kernel)) <|
  mm_at_cons (ok_aload_n (k := 0) (by decide +kernel) rfl) <|
  mm_at_cons (ok_aload_n (k := 0) (by decide +kernel) rfl) <|
  mm_at_cons (ok_getf (ci := 5) (k := 1) (idx := 32) rfl ct_in5 (by decide) ww_168 rfl rfl (by decide +kernel)) <|
  mm_at_cons (ok_if_ne (off := 7) (by decide +kernel) (by decide)) <|
  mm_at_cons (ok_iconst (n := 1) (by decide +kernel) (by decide)) <|
  mm_at_cons (ok_goto (off := 4) (by decide +kernel) (by decide)) <|
  mm_at_cons (ok_iconst (n := 0) (by decide +kernel) (by decide)) <|
  mm_at_cons (ok_iload (by decide +kernel)) <|
  mm_at_cons (ok_if_ne (off := 7) (by decide +kernel) (by decide)) <|
  mm_at_cons (ok_iconst (n := 1) (by decide +kernel) (by decide)) <|
  mm_at_cons (ok_goto (off := 4) (by decide +kernel) (by decide)) <|
  mm_at_cons (ok_iconst (n := 0) (by decide +kernel) (by decide)) <|
  mm_at_cons (ok_aload_n (k := 0) (by decide +kernel) rfl) <|
  mm_at_cons (ok_getf (ci := 5) (k := 5) (idx := 39) rfl ct_in5 (by decide) ww_173 rfl rfl (by decide +kernel)) <|
  mm_at_cons (ok_bipush (n := 8) (by decide +kernel) (by decide)) <|
  mm_at_cons (ok_icmp_ne (off := 7) (by decide +kernel) (by decide)) <|
  mm_at_cons (ok_iconst (n := 1) (by decide +kernel) (by decide)) <|
  mm_at_cons (ok_goto (off := 4) (by decide +kernel) (by decide)) <|
  mm_at_cons (ok_iconst (n := 0) (by decide +kernel) (by decide)) <|
  mm_at_cons (ok_iconst (n := 0) (by decide +kernel) (by decide)) <|
  mm_at_cons (ok_callV (z := 34) (ci := 5) (idx := 42) rfl hS ⟨rfl, rfl⟩ (mm_rmok (by decide)) rfl ct_good ww_175 (mm_4 ww_176 ww_177 sel_34 ww_172) (by decide +kernel) (by decide +kernel)) <|
  mm_at_cons (ok_if_eq (off := 5) (by decide +kernel) (by decide)) <|
  mm_at_cons (ok_iconst (n := 0) (by decide +kernel) (by decide)) <|
  mm_at_cons (ok_aload_n (k := 0) (by decide +kernel) rfl) <|
  mm_at_cons (ok_aload_n (k := 0) (by decide +kernel) rfl) <|
  mm_at_cons (ok_getf (ci := 5) (k := 5) (idx := 39) rfl ct_in5 (by decide) ww_173 rfl rfl (by decide +kernel)) <|
  mm_at_cons (ok_iconst (n := 0) (by decide +kernel) (by decide)) <|
  mm_at_cons (ok_iload_n (k := 1) (by decide +kernel) rfl) <|
  mm_at_cons (ok_callV (z := 41) (ci := 5) (idx := 67) rfl hS ⟨rfl, rfl⟩ (mm_rmok (by decide)) rfl ct_good ww_192 (mm_4 ww_193 ww_194 sel_41 ww_172) (by decide +kernel) (by decide +kernel)) <|
  mm_at_cons (ok_aload_n (k := 0) (by decide +kernel) rfl) <|
  mm_at_cons (ok_aload_n (k := 0) (by decide +kernel) rfl) <|
  mm_at_cons (ok_getf (ci := 5) (k := 5) (idx := 39) rfl ct_in5 (by decide) ww_173 rfl rfl (by decide +kernel)) <|
  mm_at_cons (ok_iconst (n := 1) (by decide +kernel) (by decide)) <|
  mm_at_cons (ok_iload_n (k := 2) (by decide +kernel) rfl) <|
  mm_at_cons (ok_callV (z := 41) (ci := 5) (idx := 67) rfl hS ⟨rfl, rfl⟩ (mm_rmok (by decide)) rfl ct_good ww_192 (mm_4 ww_193 ww_194 sel_41 ww_172) (by decide +kernel) (by decide +kernel)) <|
  mm_at_cons (ok_aload_n (k := 0) (by decide +kernel) rfl) <|
  mm_at_cons (ok_aload_n (k := 0) (by decide +kernel) rfl) <|
  mm_at_cons (ok_getf (ci := 5) (k := 5) (idx := 39) rfl ct_in5 (by decide) ww_173 rfl rfl (by decide +kernel)) <|
  mm_at_cons (ok_iconst (n := 2) (by decide +kernel) (by decide)) <|
  mm_at_cons (ok_iload_n (k := 3) (by decide +kernel) rfl) <|
  mm_at_cons (ok_callV (z := 41) (ci := 5) (idx := 67) rfl hS ⟨rfl, rfl⟩ (mm_rmok (by decide)) rfl ct_good ww_192 (mm_4 ww_193 ww_194 sel_41 ww_172) (by decide +kernel) (by decide +kernel)) <|
  mm_at_cons (ok_aload_n (k := 0) (by decide +kernel) rfl) <|
  mm_at_cons (ok_aload_n (k := 0) (by decide +kernel) rfl) <|
  mm_at_cons (ok_getf (ci := 5) (k := 5) (idx := 39) rfl ct_in5 (by decide) ww_173 rfl rfl (by decide +kernel)) <|
  mm_at_cons (ok_iconst (n := 3) (by decide +kernel) (by decide)) <|
  mm_at_cons (ok_iconst (n := 0) (by decide +kernel) (by decide)) <|
  mm_at_cons (ok_callV (z := 41) (ci := 5) (idx := 67) rfl hS ⟨rfl, rfl⟩ (mm_rmok (by decide)) rfl ct_good ww_192 (mm_4 ww_193 ww_194 sel_41 ww_172) (by decide +kernel) (by decide +kernel)) <|
  mm_at_cons (ok_aload_n (k := 0) (by decide +kernel) rfl) <|
  mm_at_cons (ok_aload_n (k := 0) (by decide +kernel) rfl) <|
  mm_at_cons (ok_getf (ci := 5) (k := 5) (idx := 39) rfl ct_in5 (by decide) ww_173 rfl rfl (by decide +kernel)) <|
  mm_at_cons (ok_iconst (n := 4) (by decide +kernel) (by decide)) <|
  mm_at_cons (ok_iconst (n := (-1)) (by decide +kernel) (by decide)) <|
  mm_at_cons (ok_callV (z := 41) (ci := 5) (idx := 67) rfl hS ⟨rfl, rfl⟩ (mm_rmok (by decide)) rfl ct_good ww_192 (mm_4 ww_193 ww_194 sel_41 ww_172) (by decide +kernel) (by decide +kernel)) <|
  mm_at_cons (ok_aload_n (k := 0) (by decide +kernel) rfl) <|
  mm_at_cons (ok_aload_n (k := 0) (by decide +kernel) rfl) <|
  mm_at_cons (ok_getf (ci := 5) (k := 5) (idx := 39) rfl ct_in5 (by decide) ww_173 rfl rfl (by decide +kernel)) <|
  mm_at_cons (ok_iconst (n := 5) (by decide +kernel) (by decide)) <|
  mm_at_cons (ok_iconst (n := (-1)) (by decide +kernel) (by decide)) <|
  mm_at_cons (ok_callV (z := 41) (ci := 5) (idx := 67) rfl hS ⟨rfl, rfl⟩ (mm_rmok (by decide)) rfl ct_good ww_192 (mm_4 ww_193 ww_194 sel_41 ww_172) (by decide +kernel) (by decide +kernel)) <|
  mm_at_cons (ok_aload_n (k := 0) (by decide +kernel) rfl) <|
  mm_at_cons (ok_dup (by decide +kernel)) <|
  mm_at_cons (ok_getf (ci := 5) (k := 5) (idx := 39) rfl ct_in5 (by decide) ww_173 rfl rfl (by decide +kernel)) <|
  mm_at_cons (ok_iconst (n := 1) (by decide +kernel) (by decide)) <|
  mm_at_cons (ok_iadd (by decide +kernel)) <|
  mm_at_cons (ok_putf (ci := 5) (k := 5) (idx := 39) rfl ct_in5 (by decide) ww_173 rfl ct_ty5 ct_tyok5 ct_nm5 rfl (by decide +kernel) rfl (by decide +kernel)) <|
  mm_at_cons (ok_aload_n (k := 0) (by decide +kernel) rfl) <|
  mm_at_cons (ok_getf (ci := 5) (k := 5) (idx := 39) rfl ct_in5 (by decide) ww_173 rfl rfl (by decide +kernel)) <|
  mm_at_cons (ok_iconst (n := 1) (by decide +kernel) (by decide)) <|
  mm_at_cons (ok_isub (by decide +kernel)) <|
  mm_at_nil
theorem ro_Mo_job : mm_RtOk prog_7_method_13_code (some .int) rt_Mo_job :=
  mm_rt_cons (Or.inr (Or.inl ⟨rfl, rfl, by decide +kernel⟩)) <|
  mm_rt_cons (Or.inr (Or.inl ⟨rfl, rfl, by decide +kernel⟩)) <|
  mm_rt_nil
set_option maxRecDepth 100000 in
set_option maxHeartbeats 4000000 in
theorem po_Mo_reaches (hS : mm_Sound ct_GW ct_NW D ct_cl (ct_tys cA) ad cA ct_K ct_kd ct_N l ct_T (mm_rm d) S) : ∀ pc f, mm_at pg_Mo_reaches pc = some f → mm_Ok ct_GW ct_NW D ct_cl (ct_tys cA) ad cA ct_K ct_kd ct_N l (mm_rm (d + 1)) "CraneTurnsModel" prog_7_method_14_code 3 S pc f :=
  mm_at_cons (ok_aload_n (k := 0) (by decide +kernel) rfl) <|
  mm_at_cons (ok_iload_n (k := 2) (by decide +kernel) rfl) <|
  mm_at_cons (ok_iconst (n := 0) (by decide +kernel) (by decide)) <|
  mm_at_cons (ok_callV (z := 40) (ci := 5) (idx := 70) rfl hS ⟨rfl, rfl⟩ (mm_rmok (by decide)) rfl ct_good ww_195 (mm_4 ww_196 ww_197 sel_40 ww_172) (by decide +kernel) (by decide +kernel)) <|
  mm_at_cons (ok_aload_n (k := 0) (by decide +kernel) rfl) <|
  mm_at_cons (ok_getr (ck := 12) (off := 1) (ci := 5) (k := 6) (idx := 7) rfl ct_in5 (by decide) ww_191 rfl rfl (by decide +kernel)) <|
  mm_at_cons (ok_iload_n (k := 1) (by decide +kernel) rfl) <|
  mm_at_cons (ok_iald (t9 := 0) (by decide) rfl rfl (by decide +kernel)) <|
  mm_at_cons (ok_aload_n (k := 0) (by decide +kernel) rfl) <|
  mm_at_cons (ok_getr (ck := 12) (off := 2) (ci := 5) (k := 7) (idx := 13) rfl ct_in5 (by decide) ww_184 rfl rfl (by decide +kernel)) <|
  mm_at_cons (ok_iload_n (k := 1) (by decide +kernel) rfl) <|
  mm_at_cons (ok_iald (t9 := 0) (by decide) rfl rfl (by decide +kernel)) <|
  mm_at_cons (ok_callS (z := 35) (idx := 35) hS ⟨rfl, rfl⟩ (mm_rmok (by decide)) ct_good ww_169 (mm_3 ww_170 ww_171 ww_172) (by decide +kernel) (by decide +kernel)) <|
  mm_at_cons (ok_if_eq (off := 31) (by decide +kernel) (by decide)) <|
  mm_at_cons (ok_aload_n (k := 0) (by decide +kernel) rfl) <|
  mm_at_cons (ok_iload_n (k := 2) (by decide +kernel) rfl) <|
  mm_at_cons (ok_iconst (n := 1) (by decide +kernel) (by decide)) <|
  mm_at_cons (ok_callV (z := 40) (ci := 5) (idx := 70) rfl hS ⟨rfl, rfl⟩ (mm_rmok (by decide)) rfl ct_good ww_195 (mm_4 ww_196 ww_197 sel_40 ww_172) (by decide +kernel) (by decide +kernel)) <|
  mm_at_cons (ok_aload_n (k := 0) (by decide +kernel) rfl) <|
  mm_at_cons (ok_getr (ck := 12) (off := 1) (ci := 5) (k := 6) (idx := 7) rfl ct_in5 (by decide) ww_191 rfl rfl (by decide +kernel)) <|
  mm_at_cons (ok_iload_n (k := 1) (by decide +kernel) rfl) <|
  mm_at_cons (ok_iald (t9 := 0) (by decide) rfl rfl (by decide +kernel)) <|
  mm_at_cons (ok_aload_n (k := 0) (by decide +kernel) rfl) <|
  mm_at_cons (ok_getr (ck := 12) (off := 2) (ci := 5) (k := 7) (idx := 13) rfl ct_in5 (by decide) ww_184 rfl rfl (by decide +kernel)) <|
  mm_at_cons (ok_iload_n (k := 1) (by decide +kernel) rfl) <|
  mm_at_cons (ok_iald (t9 := 0) (by decide) rfl rfl (by decide +kernel)) <|
  mm_at_cons (ok_callS (z := 35) (idx := 35) hS ⟨rfl, rfl⟩ (mm_rmok (by decide)) ct_good ww_169 (mm_3 ww_170 ww_171 ww_172) (by decide +kernel) (by decide +kernel)) <|
  mm_at_cons (ok_if_eq (off := 7) (by decide +kernel) (by decide)) <|
  mm_at_cons (ok_iconst (n := 1) (by decide +kernel) (by decide)) <|
  mm_at_cons (ok_goto (off := 4) (by decide +kernel) (by decide)) <|
  mm_at_cons (ok_iconst (n := 0) (by decide +kernel) (by decide)) <|
  mm_at_nil
theorem ro_Mo_reaches : mm_RtOk prog_7_method_14_code (some .boolean) rt_Mo_reaches :=
  mm_rt_cons (Or.inr (Or.inr ⟨rfl, rfl, by decide +kernel⟩)) <|
  mm_rt_nil
set_option maxRecDepth 100000 in
set_option maxHeartbeats 4000000 in
theorem po_Mo_giveTo (hS : mm_Sound ct_GW ct_NW D ct_cl (ct_tys cA) ad cA ct_K ct_kd ct_N l ct_T (mm_rm d) S) : ∀ pc f, mm_at pg_Mo_giveTo pc = some f → mm_Ok ct_GW ct_NW D ct_cl (ct_tys cA) ad cA ct_K ct_kd ct_N l (mm_rm (d + 1)) "CraneTurnsModel" prog_7_method_15_code 3 S pc f :=
  mm_at_cons (ok_aload_n (k := 0) (by decide +kernel) rfl) <|
  mm_at_cons (ok_iload_n (k := 1) (by decide +kernel) rfl) <|
  mm_at_cons (ok_iconst (n := 3) (by decide +kernel) (by decide)) <|
  mm_at_cons (ok_iconst (n := 1) (by decide +kernel) (by decide)) <|
  mm_at_cons (ok_callV (z := 41) (ci := 5) (idx := 67) rfl hS ⟨rfl, rfl⟩ (mm_rmok (by decide)) rfl ct_good ww_192 (mm_4 ww_193 ww_194 sel_41 ww_172) (by decide +kernel) (by decide +kernel)) <|
  mm_at_cons (ok_aload_n (k := 0) (by decide +kernel) rfl) <|
  mm_at_cons (ok_iload_n (k := 1) (by decide +kernel) rfl) <|
  mm_at_cons (ok_iconst (n := 4) (by decide +kernel) (by decide)) <|
  mm_at_cons (ok_iload_n (k := 2) (by decide +kernel) rfl) <|
  mm_at_cons (ok_callV (z := 41) (ci := 5) (idx := 67) rfl hS ⟨rfl, rfl⟩ (mm_rmok (by decide)) rfl ct_good ww_192 (mm_4 ww_193 ww_194 sel_41 ww_172) (by decide +kernel) (by decide +kernel)) <|
  mm_at_cons (ok_aload_n (k := 0) (by decide +kernel) rfl) <|
  mm_at_cons (ok_iload_n (k := 1) (by decide +kernel) rfl) <|
  mm_at_cons (ok_bipush (n := 6) (by decide +kernel) (by decide)) <|
  mm_at_cons (ok_aload_n (k := 0) (by decide +kernel) rfl) <|
  mm_at_cons (ok_getr (ck := 13) (off := 3) (ci := 5) (k := 8) (idx := 16) rfl ct_in5 (by decide) ww_174 rfl rfl (by decide +kernel)) <|
  mm_at_cons (ok_iconst (n := 2) (by decide +kernel) (by decide)) <|
  mm_at_cons (ok_iald (t9 := 0) (by decide) rfl rfl (by decide +kernel)) <|
  mm_at_cons (ok_callV (z := 41) (ci := 5) (idx := 67) rfl hS ⟨rfl, rfl⟩ (mm_rmok (by decide)) rfl ct_good ww_192 (mm_4 ww_193 ww_194 sel_41 ww_172) (by decide +kernel) (by decide +kernel)) <|
  mm_at_cons (ok_aload_n (k := 0) (by decide +kernel) rfl) <|
  mm_at_cons (ok_getr (ck := 13) (off := 3) (ci := 5) (k := 8) (idx := 16) rfl ct_in5 (by decide) ww_174 rfl rfl (by decide +kernel)) <|
  mm_at_cons (ok_iconst (n := 2) (by decide +kernel) (by decide)) <|
  mm_at_cons (ok_dup2 (by decide +kernel)) <|
  mm_at_cons (ok_iald (t9 := 0) (by decide) rfl rfl (by decide +kernel)) <|
  mm_at_cons (ok_iconst (n := 1) (by decide +kernel) (by decide)) <|
  mm_at_cons (ok_iadd (by decide +kernel)) <|
  mm_at_cons (ok_iast (t9 := 0) (by decide) rfl rfl (by decide +kernel)) <|
  mm_at_nil
theorem ro_Mo_giveTo : mm_RtOk prog_7_method_15_code (none) rt_Mo_giveTo :=
  mm_rt_cons (Or.inl ⟨rfl, rfl, by decide +kernel⟩) <|
  mm_rt_nil
end
end
section
section
variable {D : va_G} {ad : Nat → Nat} {cA : Nat → ClassId} {l : Launch} {d : Nat} {S : mm_S}
set_option maxRecDepth 100000 in
set_option maxHeartbeats 4000000 in
theorem po_Mo_give (hS : mm_Sound ct_GW ct_NW D ct_cl (ct_tys cA) ad cA ct_K ct_kd ct_N l ct_T (mm_rm d) S) : ∀ pc f, mm_at pg_Mo_give pc = some f → mm_Ok ct_GW ct_NW D ct_cl (ct_tys cA) ad cA ct_K ct_kd ct_N l (mm_rm (d + 1)) "CraneTurnsModel" prog_7_method_16_code 4 S pc f :=
  mm_at_cons (ok_aload_n (k := 0) (by decide +kernel) rfl) <|
  mm_at_cons (ok_iload_n (k := 1) (by decide +kernel) rfl) <|
  mm_at_cons (ok_callV (z := 37) (ci := 5) (idx := 73) rfl hS ⟨rfl, rfl⟩ (mm_rmok (by decide)) rfl ct_good ww_198 (mm_4 ww_199 ww_200 sel_37 ww_172) (by decide +kernel) (by decide +kernel)) <|
  mm_at_cons (ok_if_eq (off := 11) (by decide +kernel) (by decide)) <|
  mm_at_cons (ok_aload_n (k := 0) (by decide +kernel) rfl) <|
  mm_at_cons (ok_iload_n (k := 2) (by decide +kernel) rfl) <|
  mm_at_cons (ok_callV (z := 36) (ci := 5) (idx := 59) rfl hS ⟨rfl, rfl⟩ (mm_rmok (by decide)) rfl ct_good ww_185 (mm_4 ww_186 ww_187 sel_36 ww_172) (by decide +kernel) (by decide +kernel)) <|
  mm_at_cons (ok_if_ne (off := 7) (by decide +kernel) (by decide)) <|
  mm_at_cons (ok_iconst (n := 1) (by decide +kernel) (by decide)) <|
  mm_at_cons (ok_goto (off := 4) (by decide +kernel) (by decide)) <|
  mm_at_cons (ok_iconst (n := 0) (by decide +kernel) (by decide)) <|
  mm_at_cons (ok_istore_n (k := 3) (by decide +kernel) rfl) <|
  mm_at_cons (ok_aload_n (k := 0) (by decide +kernel) rfl) <|
  mm_at_cons (ok_iload_n (k := 3) (by decide +kernel) rfl) <|
  mm_at_cons (ok_iload_n (k := 3) (by decide +kernel) rfl) <|
  mm_at_cons (ok_if_ne (off := 16) (by decide +kernel) (by decide)) <|
  mm_at_cons (ok_aload_n (k := 0) (by decide +kernel) rfl) <|
  mm_at_cons (ok_iload_n (k := 1) (by decide +kernel) rfl) <|
  mm_at_cons (ok_iconst (n := 3) (by decide +kernel) (by decide)) <|
  mm_at_cons (ok_callV (z := 40) (ci := 5) (idx := 70) rfl hS ⟨rfl, rfl⟩ (mm_rmok (by decide)) rfl ct_good ww_195 (mm_4 ww_196 ww_197 sel_40 ww_172) (by decide +kernel) (by decide +kernel)) <|
  mm_at_cons (ok_if_le (off := 7) (by decide +kernel) (by decide)) <|
  mm_at_cons (ok_iconst (n := 1) (by decide +kernel) (by decide)) <|
  mm_at_cons (ok_goto (off := 4) (by decide +kernel) (by decide)) <|
  mm_at_cons (ok_iconst (n := 0) (by decide +kernel) (by decide)) <|
  mm_at_cons (ok_iload_n (k := 3) (by decide +kernel) rfl) <|
  mm_at_cons (ok_if_ne (off := 16) (by decide +kernel) (by decide)) <|
  mm_at_cons (ok_aload_n (k := 0) (by decide +kernel) rfl) <|
  mm_at_cons (ok_iload_n (k := 2) (by decide +kernel) rfl) <|
  mm_at_cons (ok_iload_n (k := 1) (by decide +kernel) rfl) <|
  mm_at_cons (ok_callV (z := 45) (ci := 5) (idx := 76) rfl hS ⟨rfl, rfl⟩ (mm_rmok (by decide)) rfl ct_good ww_201 (mm_4 ww_202 ww_203 sel_45 ww_172) (by decide +kernel) (by decide +kernel)) <|
  mm_at_cons (ok_if_ne (off := 7) (by decide +kernel) (by decide)) <|
  mm_at_cons (ok_iconst (n := 1) (by decide +kernel) (by decide)) <|
  mm_at_cons (ok_goto (off := 4) (by decide +kernel) (by decide)) <|
  mm_at_cons (ok_iconst (n := 0) (by decide +kernel) (by decide)) <|
  mm_at_cons (ok_iconst (n := 0) (by decide +kernel) (by decide)) <|
  mm_at_cons (ok_callV (z := 34) (ci := 5) (idx := 42) rfl hS ⟨rfl, rfl⟩ (mm_rmok (by decide)) rfl ct_good ww_175 (mm_4 ww_176 ww_177 sel_34 ww_172) (by decide +kernel) (by decide +kernel)) <|
  mm_at_cons (ok_if_eq (off := 4) (by decide +kernel) (by decide)) <|
  mm_at_cons (ok_aload_n (k := 0) (by decide +kernel) rfl) <|
  mm_at_cons (ok_iload_n (k := 1) (by decide +kernel) rfl) <|
  mm_at_cons (ok_iload_n (k := 2) (by decide +kernel) rfl) <|
  mm_at_cons (ok_callV (z := 46) (ci := 5) (idx := 80) rfl hS ⟨rfl, rfl⟩ (mm_rmok (by decide)) rfl ct_good ww_204 (mm_4 ww_205 ww_206 sel_46 ww_172) (by decide +kernel) (by decide +kernel)) <|
  mm_at_nil
theorem ro_Mo_give : mm_RtOk prog_7_method_16_code (none) rt_Mo_give :=
  mm_rt_cons (Or.inl ⟨rfl, rfl, by decide +kernel⟩) <|
  mm_rt_cons (Or.inl ⟨rfl, rfl, by decide +kernel⟩) <|
  mm_rt_nil
set_option maxRecDepth 100000 in
set_option maxHeartbeats 4000000 in
theorem po_Mo_take (hS : mm_Sound ct_GW ct_NW D ct_cl (ct_tys cA) ad cA ct_K ct_kd ct_N l ct_T (mm_rm d) S) : ∀ pc f, mm_at pg_Mo_take pc = some f → mm_Ok ct_GW ct_NW D ct_cl (ct_tys cA) ad cA ct_K ct_kd ct_N l (mm_rm (d + 1)) "CraneTurnsModel" prog_7_method_17_code 3 S pc f :=
  mm_at_cons (ok_aload_n (k := 0) (by decide +kernel) rfl) <|
  mm_at_cons (ok_iload_n (k := 1) (by decide +kernel) rfl) <|
  mm_at_cons (ok_callV (z := 37) (ci := 5) (idx := 73) rfl hS ⟨rfl, rfl⟩ (mm_rmok (by decide)) rfl ct_good ww_198 (mm_4 ww_199 ww_200 sel_37 ww_172) (by decide +kernel) (by decide +kernel)) <|
  mm_at_cons (ok_if_ne (off := 7) (by decide +kernel) (by decide)) <|
  mm_at_cons (ok_iconst (n := 1) (by decide +kernel) (by decide)) <|
  mm_at_cons (ok_goto (off := 4) (by decide +kernel) (by decide)) <|
  mm_at_cons (ok_iconst (n := 0) (by decide +kernel) (by decide)) <|
  mm_at_cons (ok_istore_n (k := 2) (by decide +kernel) rfl) <|
  mm_at_cons (ok_aload_n (k := 0) (by decide +kernel) rfl) <|
  mm_at_cons (ok_iload_n (k := 2) (by decide +kernel) rfl) <|
  mm_at_cons (ok_iload_n (k := 2) (by decide +kernel) rfl) <|
  mm_at_cons (ok_if_ne (off := 17) (by decide +kernel) (by decide)) <|
  mm_at_cons (ok_aload_n (k := 0) (by decide +kernel) rfl) <|
  mm_at_cons (ok_iload_n (k := 1) (by decide +kernel) rfl) <|
  mm_at_cons (ok_iconst (n := 3) (by decide +kernel) (by decide)) <|
  mm_at_cons (ok_callV (z := 40) (ci := 5) (idx := 70) rfl hS ⟨rfl, rfl⟩ (mm_rmok (by decide)) rfl ct_good ww_195 (mm_4 ww_196 ww_197 sel_40 ww_172) (by decide +kernel) (by decide +kernel)) <|
  mm_at_cons (ok_iconst (n := 1) (by decide +kernel) (by decide)) <|
  mm_at_cons (ok_icmp_eq (off := 7) (by decide +kernel) (by decide)) <|
  mm_at_cons (ok_iconst (n := 1) (by decide +kernel) (by decide)) <|
  mm_at_cons (ok_goto (off := 4) (by decide +kernel) (by decide)) <|
  mm_at_cons (ok_iconst (n := 0) (by decide +kernel) (by decide)) <|
  mm_at_cons (ok_iconst (n := 0) (by decide +kernel) (by decide)) <|
  mm_at_cons (ok_iconst (n := 0) (by decide +kernel) (by decide)) <|
  mm_at_cons (ok_callV (z := 34) (ci := 5) (idx := 42) rfl hS ⟨rfl, rfl⟩ (mm_rmok (by decide)) rfl ct_good ww_175 (mm_4 ww_176 ww_177 sel_34 ww_172) (by decide +kernel) (by decide +kernel)) <|
  mm_at_cons (ok_if_eq (off := 4) (by decide +kernel) (by decide)) <|
  mm_at_cons (ok_aload_n (k := 0) (by decide +kernel) rfl) <|
  mm_at_cons (ok_iload_n (k := 1) (by decide +kernel) rfl) <|
  mm_at_cons (ok_iconst (n := 3) (by decide +kernel) (by decide)) <|
  mm_at_cons (ok_iconst (n := 0) (by decide +kernel) (by decide)) <|
  mm_at_cons (ok_callV (z := 41) (ci := 5) (idx := 67) rfl hS ⟨rfl, rfl⟩ (mm_rmok (by decide)) rfl ct_good ww_192 (mm_4 ww_193 ww_194 sel_41 ww_172) (by decide +kernel) (by decide +kernel)) <|
  mm_at_cons (ok_aload_n (k := 0) (by decide +kernel) rfl) <|
  mm_at_cons (ok_iload_n (k := 1) (by decide +kernel) rfl) <|
  mm_at_cons (ok_iconst (n := 4) (by decide +kernel) (by decide)) <|
  mm_at_cons (ok_iconst (n := (-1)) (by decide +kernel) (by decide)) <|
  mm_at_cons (ok_callV (z := 41) (ci := 5) (idx := 67) rfl hS ⟨rfl, rfl⟩ (mm_rmok (by decide)) rfl ct_good ww_192 (mm_4 ww_193 ww_194 sel_41 ww_172) (by decide +kernel) (by decide +kernel)) <|
  mm_at_nil
theorem ro_Mo_take : mm_RtOk prog_7_method_17_code (none) rt_Mo_take :=
  mm_rt_cons (Or.inl ⟨rfl, rfl, by decide +kernel⟩) <|
  mm_rt_cons (Or.inl ⟨rfl, rfl, by decide +kernel⟩) <|
  mm_rt_nil
set_option maxRecDepth 100000 in
set_option maxHeartbeats 4000000 in
theorem po_Mo_broken (hS : mm_Sound ct_GW ct_NW D ct_cl (ct_tys cA) ad cA ct_K ct_kd ct_N l ct_T (mm_rm d) S) : ∀ pc f, mm_at pg_Mo_broken pc = some f → mm_Ok ct_GW ct_NW D ct_cl (ct_tys cA) ad cA ct_K ct_kd ct_N l (mm_rm (d + 1)) "CraneTurnsModel" prog_7_method_18_code 4 S pc f :=
  mm_at_cons (ok_aload_n (k := 0) (by decide +kernel) rfl) <|
  mm_at_cons (ok_iload_n (k := 1) (by decide +kernel) rfl) <|
  mm_at_cons (ok_callV (z := 36) (ci := 5) (idx := 59) rfl hS ⟨rfl, rfl⟩ (mm_rmok (by decide)) rfl ct_good ww_185 (mm_4 ww_186 ww_187 sel_36 ww_172) (by decide +kernel) (by decide +kernel)) <|
  mm_at_cons (ok_if_ne (off := 7) (by decide +kernel) (by decide)) <|
  mm_at_cons (ok_iconst (n := 1) (by decide +kernel) (by decide)) <|
  mm_at_cons (ok_goto (off := 4) (by decide +kernel) (by decide)) <|
  mm_at_cons (ok_iconst (n := 0) (by decide +kernel) (by decide)) <|
  mm_at_cons (ok_istore_n (k := 3) (by decide +kernel) rfl) <|
  mm_at_cons (ok_aload_n (k := 0) (by decide +kernel) rfl) <|
  mm_at_cons (ok_iload_n (k := 3) (by decide +kernel) rfl) <|
  mm_at_cons (ok_iload_n (k := 3) (by decide +kernel) rfl) <|
  mm_at_cons (ok_if_ne (off := 26) (by decide +kernel) (by decide)) <|
  mm_at_cons (ok_aload_n (k := 0) (by decide +kernel) rfl) <|
  mm_at_cons (ok_iload_n (k := 1) (by decide +kernel) rfl) <|
  mm_at_cons (ok_bipush (n := 8) (by decide +kernel) (by decide)) <|
  mm_at_cons (ok_callV (z := 38) (ci := 5) (idx := 63) rfl hS ⟨rfl, rfl⟩ (mm_rmok (by decide)) rfl ct_good ww_188 (mm_4 ww_189 ww_190 sel_38 ww_172) (by decide +kernel) (by decide +kernel)) <|
  mm_at_cons (ok_iload_n (k := 2) (by decide +kernel) rfl) <|
  mm_at_cons (ok_if_eq (off := 7) (by decide +kernel) (by decide)) <|
  mm_at_cons (ok_iconst (n := 1) (by decide +kernel) (by decide)) <|
  mm_at_cons (ok_goto (off := 4) (by decide +kernel) (by decide)) <|
  mm_at_cons (ok_iconst (n := 0) (by decide +kernel) (by decide)) <|
  mm_at_cons (ok_icmp_ne (off := 7) (by decide +kernel) (by decide)) <|
  mm_at_cons (ok_iconst (n := 1) (by decide +kernel) (by decide)) <|
  mm_at_cons (ok_goto (off := 4) (by decide +kernel) (by decide)) <|
  mm_at_cons (ok_iconst (n := 0) (by decide +kernel) (by decide)) <|
  mm_at_cons (ok_iconst (n := 0) (by decide +kernel) (by decide)) <|
  mm_at_cons (ok_iconst (n := 0) (by decide +kernel) (by decide)) <|
  mm_at_cons (ok_callV (z := 34) (ci := 5) (idx := 42) rfl hS ⟨rfl, rfl⟩ (mm_rmok (by decide)) rfl ct_good ww_175 (mm_4 ww_176 ww_177 sel_34 ww_172) (by decide +kernel) (by decide +kernel)) <|
  mm_at_cons (ok_if_eq (off := 4) (by decide +kernel) (by decide)) <|
  mm_at_cons (ok_aload_n (k := 0) (by decide +kernel) rfl) <|
  mm_at_cons (ok_iload_n (k := 1) (by decide +kernel) rfl) <|
  mm_at_cons (ok_bipush (n := 8) (by decide +kernel) (by decide)) <|
  mm_at_cons (ok_iload_n (k := 2) (by decide +kernel) rfl) <|
  mm_at_cons (ok_if_eq (off := 7) (by decide +kernel) (by decide)) <|
  mm_at_cons (ok_iconst (n := 1) (by decide +kernel) (by decide)) <|
  mm_at_cons (ok_goto (off := 4) (by decide +kernel) (by decide)) <|
  mm_at_cons (ok_iconst (n := 0) (by decide +kernel) (by decide)) <|
  mm_at_cons (ok_callV (z := 39) (ci := 5) (idx := 55) rfl hS ⟨rfl, rfl⟩ (mm_rmok (by decide)) rfl ct_good ww_181 (mm_4 ww_182 ww_183 sel_39 ww_172) (by decide +kernel) (by decide +kernel)) <|
  mm_at_nil
theorem ro_Mo_broken : mm_RtOk prog_7_method_18_code (none) rt_Mo_broken :=
  mm_rt_cons (Or.inl ⟨rfl, rfl, by decide +kernel⟩) <|
  mm_rt_cons (Or.inl ⟨rfl, rfl, by decide +kernel⟩) <|
  mm_rt_nil
set_option maxRecDepth 100000 in
set_option maxHeartbeats 4000000 in
theorem po_Mo_firstOf (hS : mm_Sound ct_GW ct_NW D ct_cl (ct_tys cA) ad cA ct_K ct_kd ct_N l ct_T (mm_rm d) S) : ∀ pc f, mm_at pg_Mo_firstOf pc = some f → mm_Ok ct_GW ct_NW D ct_cl (ct_tys cA) ad cA ct_K ct_kd ct_N l (mm_rm (d + 1)) "CraneTurnsModel" prog_7_method_19_code 5 S pc f :=
  mm_at_cons (ok_iconst (n := (-1)) (by decide +kernel) (by decide)) <|
  mm_at_cons (ok_istore_n (k := 2) (by decide +kernel) rfl) <|
  mm_at_cons (ok_iconst (n := 0) (by decide +kernel) (by decide)) <|
  mm_at_cons (ok_istore_n (k := 3) (by decide +kernel) rfl) <|
  mm_at_cons (ok_iload_n (k := 3) (by decide +kernel) rfl) <|
  mm_at_cons (ok_aload_n (k := 0) (by decide +kernel) rfl) <|
  mm_at_cons (ok_getf (ci := 5) (k := 5) (idx := 39) rfl ct_in5 (by decide) ww_173 rfl rfl (by decide +kernel)) <|
  mm_at_cons (ok_icmp_ge (off := 64) (by decide +kernel) (by decide)) <|
  mm_at_cons (ok_aload_n (k := 0) (by decide +kernel) rfl) <|
  mm_at_cons (ok_iload_n (k := 3) (by decide +kernel) rfl) <|
  mm_at_cons (ok_iconst (n := 3) (by decide +kernel) (by decide)) <|
  mm_at_cons (ok_callV (z := 40) (ci := 5) (idx := 70) rfl hS ⟨rfl, rfl⟩ (mm_rmok (by decide)) rfl ct_good ww_195 (mm_4 ww_196 ww_197 sel_40 ww_172) (by decide +kernel) (by decide +kernel)) <|
  mm_at_cons (ok_iconst (n := 1) (by decide +kernel) (by decide)) <|
  mm_at_cons (ok_icmp_ne (off := 17) (by decide +kernel) (by decide)) <|
  mm_at_cons (ok_aload_n (k := 0) (by decide +kernel) rfl) <|
  mm_at_cons (ok_iload_n (k := 3) (by decide +kernel) rfl) <|
  mm_at_cons (ok_iconst (n := 4) (by decide +kernel) (by decide)) <|
  mm_at_cons (ok_callV (z := 40) (ci := 5) (idx := 70) rfl hS ⟨rfl, rfl⟩ (mm_rmok (by decide)) rfl ct_good ww_195 (mm_4 ww_196 ww_197 sel_40 ww_172) (by decide +kernel) (by decide +kernel)) <|
  mm_at_cons (ok_iload_n (k := 1) (by decide +kernel) rfl) <|
  mm_at_cons (ok_icmp_ne (off := 7) (by decide +kernel) (by decide)) <|
  mm_at_cons (ok_iconst (n := 1) (by decide +kernel) (by decide)) <|
  mm_at_cons (ok_goto (off := 4) (by decide +kernel) (by decide)) <|
  mm_at_cons (ok_iconst (n := 0) (by decide +kernel) (by decide)) <|
  mm_at_cons (ok_istore (by decide +kernel)) <|
  mm_at_cons (ok_iload (by decide +kernel)) <|
  mm_at_cons (ok_if_eq (off := 26) (by decide +kernel) (by decide)) <|
  mm_at_cons (ok_iload_n (k := 2) (by decide +kernel) rfl) <|
  mm_at_cons (ok_if_lt (off := 20) (by decide +kernel) (by decide)) <|
  mm_at_cons (ok_aload_n (k := 0) (by decide +kernel) rfl) <|
  mm_at_cons (ok_iload_n (k := 3) (by decide +kernel) rfl) <|
  mm_at_cons (ok_bipush (n := 6) (by decide +kernel) (by decide)) <|
  mm_at_cons (ok_callV (z := 40) (ci := 5) (idx := 70) rfl hS ⟨rfl, rfl⟩ (mm_rmok (by decide)) rfl ct_good ww_195 (mm_4 ww_196 ww_197 sel_40 ww_172) (by decide +kernel) (by decide +kernel)) <|
  mm_at_cons (ok_aload_n (k := 0) (by decide +kernel) rfl) <|
  mm_at_cons (ok_iload_n (k := 2) (by decide +kernel) rfl) <|
  mm_at_cons (ok_bipush (n := 6) (by decide +kernel) (by decide)) <|
  mm_at_cons (ok_callV (z := 40) (ci := 5) (idx := 70) rfl hS ⟨rfl, rfl⟩ (mm_rmok (by decide)) rfl ct_good ww_195 (mm_4 ww_196 ww_197 sel_40 ww_172) (by decide +kernel) (by decide +kernel)) <|
  mm_at_cons (ok_icmp_ge (off := 5) (by decide +kernel) (by decide)) <|
  mm_at_cons (ok_iload_n (k := 3) (by decide +kernel) rfl) <|
  mm_at_cons (ok_istore_n (k := 2) (by decide +kernel) rfl) <|
  mm_at_cons (ok_iinc (n := 1) (by decide +kernel) (by decide)) <|
  mm_at_cons (ok_goto (off := (-66)) (by decide +kernel) (by decide)) <|
  mm_at_cons (ok_iload_n (k := 2) (by decide +kernel) rfl) <|
  mm_at_nil
theorem ro_Mo_firstOf : mm_RtOk prog_7_method_19_code (some .int) rt_Mo_firstOf :=
  mm_rt_cons (Or.inr (Or.inl ⟨rfl, rfl, by decide +kernel⟩)) <|
  mm_rt_nil
set_option maxRecDepth 100000 in
set_option maxHeartbeats 4000000 in
theorem po_Mo_hasGoal (hS : mm_Sound ct_GW ct_NW D ct_cl (ct_tys cA) ad cA ct_K ct_kd ct_N l ct_T (mm_rm d) S) : ∀ pc f, mm_at pg_Mo_hasGoal pc = some f → mm_Ok ct_GW ct_NW D ct_cl (ct_tys cA) ad cA ct_K ct_kd ct_N l (mm_rm (d + 1)) "CraneTurnsModel" prog_7_method_20_code 2 S pc f :=
  mm_at_cons (ok_aload_n (k := 0) (by decide +kernel) rfl) <|
  mm_at_cons (ok_iload_n (k := 1) (by decide +kernel) rfl) <|
  mm_at_cons (ok_iconst (n := 1) (by decide +kernel) (by decide)) <|
  mm_at_cons (ok_callV (z := 38) (ci := 5) (idx := 63) rfl hS ⟨rfl, rfl⟩ (mm_rmok (by decide)) rfl ct_good ww_188 (mm_4 ww_189 ww_190 sel_38 ww_172) (by decide +kernel) (by decide +kernel)) <|
  mm_at_cons (ok_iconst (n := 1) (by decide +kernel) (by decide)) <|
  mm_at_cons (ok_icmp_eq (off := 13) (by decide +kernel) (by decide)) <|
  mm_at_cons (ok_aload_n (k := 0) (by decide +kernel) rfl) <|
  mm_at_cons (ok_iload_n (k := 1) (by decide +kernel) rfl) <|
  mm_at_cons (ok_iconst (n := 1) (by decide +kernel) (by decide)) <|
  mm_at_cons (ok_callV (z := 38) (ci := 5) (idx := 63) rfl hS ⟨rfl, rfl⟩ (mm_rmok (by decide)) rfl ct_good ww_188 (mm_4 ww_189 ww_190 sel_38 ww_172) (by decide +kernel) (by decide +kernel)) <|
  mm_at_cons (ok_iconst (n := 3) (by decide +kernel) (by decide)) <|
  mm_at_cons (ok_icmp_ne (off := 7) (by decide +kernel) (by decide)) <|
  mm_at_cons (ok_iconst (n := 1) (by decide +kernel) (by decide)) <|
  mm_at_cons (ok_goto (off := 4) (by decide +kernel) (by decide)) <|
  mm_at_cons (ok_iconst (n := 0) (by decide +kernel) (by decide)) <|
  mm_at_nil
theorem ro_Mo_hasGoal : mm_RtOk prog_7_method_20_code (some .boolean) rt_Mo_hasGoal :=
  mm_rt_cons (Or.inr (Or.inr ⟨rfl, rfl, by decide +kernel⟩)) <|
  mm_rt_nil
set_option maxRecDepth 100000 in
set_option maxHeartbeats 4000000 in
theorem po_Mo_goalOf (hS : mm_Sound ct_GW ct_NW D ct_cl (ct_tys cA) ad cA ct_K ct_kd ct_N l ct_T (mm_rm d) S) : ∀ pc f, mm_at pg_Mo_goalOf pc = some f → mm_Ok ct_GW ct_NW D ct_cl (ct_tys cA) ad cA ct_K ct_kd ct_N l (mm_rm (d + 1)) "CraneTurnsModel" prog_7_method_21_code 2 S pc f :=
  mm_at_cons (ok_aload_n (k := 0) (by decide +kernel) rfl) <|
  mm_at_cons (ok_aload_n (k := 0) (by decide +kernel) rfl) <|
  mm_at_cons (ok_iload_n (k := 1) (by decide +kernel) rfl) <|
  mm_at_cons (ok_iconst (n := 2) (by decide +kernel) (by decide)) <|
  mm_at_cons (ok_callV (z := 38) (ci := 5) (idx := 63) rfl hS ⟨rfl, rfl⟩ (mm_rmok (by decide)) rfl ct_good ww_188 (mm_4 ww_189 ww_190 sel_38 ww_172) (by decide +kernel) (by decide +kernel)) <|
  mm_at_cons (ok_aload_n (k := 0) (by decide +kernel) rfl) <|
  mm_at_cons (ok_iload_n (k := 1) (by decide +kernel) rfl) <|
  mm_at_cons (ok_iconst (n := 1) (by decide +kernel) (by decide)) <|
  mm_at_cons (ok_callV (z := 38) (ci := 5) (idx := 63) rfl hS ⟨rfl, rfl⟩ (mm_rmok (by decide)) rfl ct_good ww_188 (mm_4 ww_189 ww_190 sel_38 ww_172) (by decide +kernel) (by decide +kernel)) <|
  mm_at_cons (ok_iconst (n := 1) (by decide +kernel) (by decide)) <|
  mm_at_cons (ok_icmp_ne (off := 7) (by decide +kernel) (by decide)) <|
  mm_at_cons (ok_iconst (n := 0) (by decide +kernel) (by decide)) <|
  mm_at_cons (ok_goto (off := 4) (by decide +kernel) (by decide)) <|
  mm_at_cons (ok_iconst (n := 1) (by decide +kernel) (by decide)) <|
  mm_at_cons (ok_callV (z := 40) (ci := 5) (idx := 70) rfl hS ⟨rfl, rfl⟩ (mm_rmok (by decide)) rfl ct_good ww_195 (mm_4 ww_196 ww_197 sel_40 ww_172) (by decide +kernel) (by decide +kernel)) <|
  mm_at_nil
theorem ro_Mo_goalOf : mm_RtOk prog_7_method_21_code (some .int) rt_Mo_goalOf :=
  mm_rt_cons (Or.inr (Or.inl ⟨rfl, rfl, by decide +kernel⟩)) <|
  mm_rt_nil
set_option maxRecDepth 100000 in
set_option maxHeartbeats 4000000 in
theorem po_Mo_begins (hS : mm_Sound ct_GW ct_NW D ct_cl (ct_tys cA) ad cA ct_K ct_kd ct_N l ct_T (mm_rm d) S) : ∀ pc f, mm_at pg_Mo_begins pc = some f → mm_Ok ct_GW ct_NW D ct_cl (ct_tys cA) ad cA ct_K ct_kd ct_N l (mm_rm (d + 1)) "CraneTurnsModel" prog_7_method_22_code 3 S pc f :=
  mm_at_cons (ok_aload_n (k := 0) (by decide +kernel) rfl) <|
  mm_at_cons (ok_iload_n (k := 1) (by decide +kernel) rfl) <|
  mm_at_cons (ok_iconst (n := 1) (by decide +kernel) (by decide)) <|
  mm_at_cons (ok_iload_n (k := 2) (by decide +kernel) rfl) <|
  mm_at_cons (ok_callV (z := 39) (ci := 5) (idx := 55) rfl hS ⟨rfl, rfl⟩ (mm_rmok (by decide)) rfl ct_good ww_181 (mm_4 ww_182 ww_183 sel_39 ww_172) (by decide +kernel) (by decide +kernel)) <|
  mm_at_cons (ok_aload_n (k := 0) (by decide +kernel) rfl) <|
  mm_at_cons (ok_iload_n (k := 1) (by decide +kernel) rfl) <|
  mm_at_cons (ok_iconst (n := 3) (by decide +kernel) (by decide)) <|
  mm_at_cons (ok_aload_n (k := 0) (by decide +kernel) rfl) <|
  mm_at_cons (ok_getf (ci := 5) (k := 4) (idx := 52) rfl ct_in5 (by decide) ww_180 rfl rfl (by decide +kernel)) <|
  mm_at_cons (ok_callV (z := 39) (ci := 5) (idx := 55) rfl hS ⟨rfl, rfl⟩ (mm_rmok (by decide)) rfl ct_good ww_181 (mm_4 ww_182 ww_183 sel_39 ww_172) (by decide +kernel) (by decide +kernel)) <|
  mm_at_nil
theorem ro_Mo_begins : mm_RtOk prog_7_method_22_code (none) rt_Mo_begins :=
  mm_rt_cons (Or.inl ⟨rfl, rfl, by decide +kernel⟩) <|
  mm_rt_nil
set_option maxRecDepth 100000 in
set_option maxHeartbeats 4000000 in
theorem po_Mo_takesJob (hS : mm_Sound ct_GW ct_NW D ct_cl (ct_tys cA) ad cA ct_K ct_kd ct_N l ct_T (mm_rm d) S) : ∀ pc f, mm_at pg_Mo_takesJob pc = some f → mm_Ok ct_GW ct_NW D ct_cl (ct_tys cA) ad cA ct_K ct_kd ct_N l (mm_rm (d + 1)) "CraneTurnsModel" prog_7_method_23_code 3 S pc f :=
  mm_at_cons (ok_aload_n (k := 0) (by decide +kernel) rfl) <|
  mm_at_cons (ok_iload_n (k := 1) (by decide +kernel) rfl) <|
  mm_at_cons (ok_callV (z := 50) (ci := 5) (idx := 84) rfl hS ⟨rfl, rfl⟩ (mm_rmok (by decide)) rfl ct_good ww_207 (mm_4 ww_208 ww_209 sel_50 ww_172) (by decide +kernel) (by decide +kernel)) <|
  mm_at_cons (ok_istore_n (k := 2) (by decide +kernel) rfl) <|
  mm_at_cons (ok_iload_n (k := 2) (by decide +kernel) rfl) <|
  mm_at_cons (ok_if_lt (off := 18) (by decide +kernel) (by decide)) <|
  mm_at_cons (ok_aload_n (k := 0) (by decide +kernel) rfl) <|
  mm_at_cons (ok_getr (ck := 13) (off := 3) (ci := 5) (k := 8) (idx := 16) rfl ct_in5 (by decide) ww_174 rfl rfl (by decide +kernel)) <|
  mm_at_cons (ok_iconst (n := 0) (by decide +kernel) (by decide)) <|
  mm_at_cons (ok_iald (t9 := 0) (by decide) rfl rfl (by decide +kernel)) <|
  mm_at_cons (ok_aload_n (k := 0) (by decide +kernel) rfl) <|
  mm_at_cons (ok_iload_n (k := 2) (by decide +kernel) rfl) <|
  mm_at_cons (ok_iconst (n := 2) (by decide +kernel) (by decide)) <|
  mm_at_cons (ok_callV (z := 40) (ci := 5) (idx := 70) rfl hS ⟨rfl, rfl⟩ (mm_rmok (by decide)) rfl ct_good ww_195 (mm_4 ww_196 ww_197 sel_40 ww_172) (by decide +kernel) (by decide +kernel)) <|
  mm_at_cons (ok_icmp_ge (off := 4) (by decide +kernel) (by decide)) <|
  mm_at_cons (ok_aload_n (k := 0) (by decide +kernel) rfl) <|
  mm_at_cons (ok_iload_n (k := 2) (by decide +kernel) rfl) <|
  mm_at_cons (ok_iconst (n := 3) (by decide +kernel) (by decide)) <|
  mm_at_cons (ok_iconst (n := 2) (by decide +kernel) (by decide)) <|
  mm_at_cons (ok_callV (z := 41) (ci := 5) (idx := 67) rfl hS ⟨rfl, rfl⟩ (mm_rmok (by decide)) rfl ct_good ww_192 (mm_4 ww_193 ww_194 sel_41 ww_172) (by decide +kernel) (by decide +kernel)) <|
  mm_at_cons (ok_aload_n (k := 0) (by decide +kernel) rfl) <|
  mm_at_cons (ok_iload_n (k := 1) (by decide +kernel) rfl) <|
  mm_at_cons (ok_iconst (n := 2) (by decide +kernel) (by decide)) <|
  mm_at_cons (ok_iload_n (k := 2) (by decide +kernel) rfl) <|
  mm_at_cons (ok_callV (z := 39) (ci := 5) (idx := 55) rfl hS ⟨rfl, rfl⟩ (mm_rmok (by decide)) rfl ct_good ww_181 (mm_4 ww_182 ww_183 sel_39 ww_172) (by decide +kernel) (by decide +kernel)) <|
  mm_at_cons (ok_aload_n (k := 0) (by decide +kernel) rfl) <|
  mm_at_cons (ok_iload_n (k := 1) (by decide +kernel) rfl) <|
  mm_at_cons (ok_iconst (n := 0) (by decide +kernel) (by decide)) <|
  mm_at_cons (ok_callV (z := 38) (ci := 5) (idx := 63) rfl hS ⟨rfl, rfl⟩ (mm_rmok (by decide)) rfl ct_good ww_188 (mm_4 ww_189 ww_190 sel_38 ww_172) (by decide +kernel) (by decide +kernel)) <|
  mm_at_cons (ok_aload_n (k := 0) (by decide +kernel) rfl) <|
  mm_at_cons (ok_iload_n (k := 2) (by decide +kernel) rfl) <|
  mm_at_cons (ok_iconst (n := 0) (by decide +kernel) (by decide)) <|
  mm_at_cons (ok_callV (z := 40) (ci := 5) (idx := 70) rfl hS ⟨rfl, rfl⟩ (mm_rmok (by decide)) rfl ct_good ww_195 (mm_4 ww_196 ww_197 sel_40 ww_172) (by decide +kernel) (by decide +kernel)) <|
  mm_at_cons (ok_icmp_ne (off := 12) (by decide +kernel) (by decide)) <|
  mm_at_cons (ok_aload_n (k := 0) (by decide +kernel) rfl) <|
  mm_at_cons (ok_iload_n (k := 1) (by decide +kernel) rfl) <|
  mm_at_cons (ok_iconst (n := 2) (by decide +kernel) (by decide)) <|
  mm_at_cons (ok_callV (z := 53) (ci := 5) (idx := 88) rfl hS ⟨rfl, rfl⟩ (mm_rmok (by decide)) rfl ct_good ww_210 (mm_4 ww_211 ww_212 sel_53 ww_172) (by decide +kernel) (by decide +kernel)) <|
  mm_at_cons (ok_goto (off := 10) (by decide +kernel) (by decide)) <|
  mm_at_cons (ok_aload_n (k := 0) (by decide +kernel) rfl) <|
  mm_at_cons (ok_iload_n (k := 1) (by decide +kernel) rfl) <|
  mm_at_cons (ok_iconst (n := 1) (by decide +kernel) (by decide)) <|
  mm_at_cons (ok_iconst (n := 1) (by decide +kernel) (by decide)) <|
  mm_at_cons (ok_callV (z := 39) (ci := 5) (idx := 55) rfl hS ⟨rfl, rfl⟩ (mm_rmok (by decide)) rfl ct_good ww_181 (mm_4 ww_182 ww_183 sel_39 ww_172) (by decide +kernel) (by decide +kernel)) <|
  mm_at_nil
theorem ro_Mo_takesJob : mm_RtOk prog_7_method_23_code (none) rt_Mo_takesJob :=
  mm_rt_cons (Or.inl ⟨rfl, rfl, by decide +kernel⟩) <|
  mm_rt_cons (Or.inl ⟨rfl, rfl, by decide +kernel⟩) <|
  mm_rt_nil
set_option maxRecDepth 100000 in
set_option maxHeartbeats 4000000 in
theorem po_Mo_goes (hS : mm_Sound ct_GW ct_NW D ct_cl (ct_tys cA) ad cA ct_K ct_kd ct_N l ct_T (mm_rm d) S) : ∀ pc f, mm_at pg_Mo_goes pc = some f → mm_Ok ct_GW ct_NW D ct_cl (ct_tys cA) ad cA ct_K ct_kd ct_N l (mm_rm (d + 1)) "CraneTurnsModel" prog_7_method_24_code 5 S pc f :=
  mm_at_cons (ok_aload_n (k := 0) (by decide +kernel) rfl) <|
  mm_at_cons (ok_iload_n (k := 1) (by decide +kernel) rfl) <|
  mm_at_cons (ok_iconst (n := 0) (by decide +kernel) (by decide)) <|
  mm_at_cons (ok_callV (z := 38) (ci := 5) (idx := 63) rfl hS ⟨rfl, rfl⟩ (mm_rmok (by decide)) rfl ct_good ww_188 (mm_4 ww_189 ww_190 sel_38 ww_172) (by decide +kernel) (by decide +kernel)) <|
  mm_at_cons (ok_istore_n (k := 3) (by decide +kernel) rfl) <|
  mm_at_cons (ok_iload_n (k := 3) (by decide +kernel) rfl) <|
  mm_at_cons (ok_istore (by decide +kernel)) <|
  mm_at_cons (ok_iload_n (k := 2) (by decide +kernel) rfl) <|
  mm_at_cons (ok_iload_n (k := 3) (by decide +kernel) rfl) <|
  mm_at_cons (ok_icmp_le (off := 85) (by decide +kernel) (by decide)) <|
  mm_at_cons (ok_iload_n (k := 2) (by decide +kernel) rfl) <|
  mm_at_cons (ok_iload_n (k := 3) (by decide +kernel) rfl) <|
  mm_at_cons (ok_aload_n (k := 0) (by decide +kernel) rfl) <|
  mm_at_cons (ok_getf (ci := 5) (k := 3) (idx := 49) rfl ct_in5 (by decide) ww_179 rfl rfl (by decide +kernel)) <|
  mm_at_cons (ok_iadd (by decide +kernel)) <|
  mm_at_cons (ok_icmp_ge (off := 7) (by decide +kernel) (by decide)) <|
  mm_at_cons (ok_iload_n (k := 2) (by decide +kernel) rfl) <|
  mm_at_cons (ok_goto (off := 9) (by decide +kernel) (by decide)) <|
  mm_at_cons (ok_iload_n (k := 3) (by decide +kernel) rfl) <|
  mm_at_cons (ok_aload_n (k := 0) (by decide +kernel) rfl) <|
  mm_at_cons (ok_getf (ci := 5) (k := 3) (idx := 49) rfl ct_in5 (by decide) ww_179 rfl rfl (by decide +kernel)) <|
  mm_at_cons (ok_iadd (by decide +kernel)) <|
  mm_at_cons (ok_istore (by decide +kernel)) <|
  mm_at_cons (ok_iload_n (k := 1) (by decide +kernel) rfl) <|
  mm_at_cons (ok_iconst (n := 1) (by decide +kernel) (by decide)) <|
  mm_at_cons (ok_iadd (by decide +kernel)) <|
  mm_at_cons (ok_aload_n (k := 0) (by decide +kernel) rfl) <|
  mm_at_cons (ok_getf (ci := 5) (k := 1) (idx := 32) rfl ct_in5 (by decide) ww_168 rfl rfl (by decide +kernel)) <|
  mm_at_cons (ok_icmp_ge (off := 36) (by decide +kernel) (by decide)) <|
  mm_at_cons (ok_iload (by decide +kernel)) <|
  mm_at_cons (ok_aload_n (k := 0) (by decide +kernel) rfl) <|
  mm_at_cons (ok_iload_n (k := 1) (by decide +kernel) rfl) <|
  mm_at_cons (ok_iconst (n := 1) (by decide +kernel) (by decide)) <|
  mm_at_cons (ok_iadd (by decide +kernel)) <|
  mm_at_cons (ok_iconst (n := 0) (by decide +kernel) (by decide)) <|
  mm_at_cons (ok_callV (z := 38) (ci := 5) (idx := 63) rfl hS ⟨rfl, rfl⟩ (mm_rmok (by decide)) rfl ct_good ww_188 (mm_4 ww_189 ww_190 sel_38 ww_172) (by decide +kernel) (by decide +kernel)) <|
  mm_at_cons (ok_aload_n (k := 0) (by decide +kernel) rfl) <|
  mm_at_cons (ok_getf (ci := 5) (k := 2) (idx := 46) rfl ct_in5 (by decide) ww_178 rfl rfl (by decide +kernel)) <|
  mm_at_cons (ok_isub (by decide +kernel)) <|
  mm_at_cons (ok_icmp_le (off := 18) (by decide +kernel) (by decide)) <|
  mm_at_cons (ok_aload_n (k := 0) (by decide +kernel) rfl) <|
  mm_at_cons (ok_iload_n (k := 1) (by decide +kernel) rfl) <|
  mm_at_cons (ok_iconst (n := 1) (by decide +kernel) (by decide)) <|
  mm_at_cons (ok_iadd (by decide +kernel)) <|
  mm_at_cons (ok_iconst (n := 0) (by decide +kernel) (by decide)) <|
  mm_at_cons (ok_callV (z := 38) (ci := 5) (idx := 63) rfl hS ⟨rfl, rfl⟩ (mm_rmok (by decide)) rfl ct_good ww_188 (mm_4 ww_189 ww_190 sel_38 ww_172) (by decide +kernel) (by decide +kernel)) <|
  mm_at_cons (ok_aload_n (k := 0) (by decide +kernel) rfl) <|
  mm_at_cons (ok_getf (ci := 5) (k := 2) (idx := 46) rfl ct_in5 (by decide) ww_178 rfl rfl (by decide +kernel)) <|
  mm_at_cons (ok_isub (by decide +kernel)) <|
  mm_at_cons (ok_istore (by decide +kernel)) <|
  mm_at_cons (ok_iload (by decide +kernel)) <|
  mm_at_cons (ok_iload_n (k := 3) (by decide +kernel) rfl) <|
  mm_at_cons (ok_icmp_ge (off := 7) (by decide +kernel) (by decide)) <|
  mm_at_cons (ok_iload_n (k := 3) (by decide +kernel) rfl) <|
  mm_at_cons (ok_goto (off := 5) (by decide +kernel) (by decide)) <|
  mm_at_cons (ok_iload (by decide +kernel)) <|
  mm_at_cons (ok_istore (by decide +kernel)) <|
  mm_at_cons (ok_goto (off := 81) (by decide +kernel) (by decide)) <|
  mm_at_cons (ok_iload_n (k := 2) (by decide +kernel) rfl) <|
  mm_at_cons (ok_iload_n (k := 3) (by decide +kernel) rfl) <|
  mm_at_cons (ok_icmp_ge (off := 76) (by decide +kernel) (by decide)) <|
  mm_at_cons (ok_iload_n (k := 2) (by decide +kernel) rfl) <|
  mm_at_cons (ok_iload_n (k := 3) (by decide +kernel) rfl) <|
  mm_at_cons (ok_aload_n (k := 0) (by decide +kernel) rfl) <|
  mm_at_cons (ok_getf (ci := 5) (k := 3) (idx := 49) rfl ct_in5 (by decide) ww_179 rfl rfl (by decide +kernel)) <|
  mm_at_cons (ok_isub (by decide +kernel)) <|
  mm_at_cons (ok_icmp_le (off := 7) (by decide +kernel) (by decide)) <|
  mm_at_cons (ok_iload_n (k := 2) (by decide +kernel) rfl) <|
  mm_at_cons (ok_goto (off := 9) (by decide +kernel) (by decide)) <|
  mm_at_cons (ok_iload_n (k := 3) (by decide +kernel) rfl) <|
  mm_at_cons (ok_aload_n (k := 0) (by decide +kernel) rfl) <|
  mm_at_cons (ok_getf (ci := 5) (k := 3) (idx := 49) rfl ct_in5 (by decide) ww_179 rfl rfl (by decide +kernel)) <|
  mm_at_cons (ok_isub (by decide +kernel)) <|
  mm_at_cons (ok_istore (by decide +kernel)) <|
  mm_at_cons (ok_iload_n (k := 1) (by decide +kernel) rfl) <|
  mm_at_cons (ok_if_le (off := 36) (by decide +kernel) (by decide)) <|
  mm_at_cons (ok_iload (by decide +kernel)) <|
  mm_at_cons (ok_aload_n (k := 0) (by decide +kernel) rfl) <|
  mm_at_cons (ok_iload_n (k := 1) (by decide +kernel) rfl) <|
  mm_at_cons (ok_iconst (n := 1) (by decide +kernel) (by decide)) <|
  mm_at_cons (ok_isub (by decide +kernel)) <|
  mm_at_cons (ok_iconst (n := 0) (by decide +kernel) (by decide)) <|
  mm_at_cons (ok_callV (z := 38) (ci := 5) (idx := 63) rfl hS ⟨rfl, rfl⟩ (mm_rmok (by decide)) rfl ct_good ww_188 (mm_4 ww_189 ww_190 sel_38 ww_172) (by decide +kernel) (by decide +kernel)) <|
  mm_at_cons (ok_aload_n (k := 0) (by decide +kernel) rfl) <|
  mm_at_cons (ok_getf (ci := 5) (k := 2) (idx := 46) rfl ct_in5 (by decide) ww_178 rfl rfl (by decide +kernel)) <|
  mm_at_cons (ok_iadd (by decide +kernel)) <|
  mm_at_cons (ok_icmp_ge (off := 18) (by decide +kernel) (by decide)) <|
  mm_at_cons (ok_aload_n (k := 0) (by decide +kernel) rfl) <|
  mm_at_cons (ok_iload_n (k := 1) (by decide +kernel) rfl) <|
  mm_at_cons (ok_iconst (n := 1) (by decide +kernel) (by decide)) <|
  mm_at_cons (ok_isub (by decide +kernel)) <|
  mm_at_cons (ok_iconst (n := 0) (by decide +kernel) (by decide)) <|
  mm_at_cons (ok_callV (z := 38) (ci := 5) (idx := 63) rfl hS ⟨rfl, rfl⟩ (mm_rmok (by decide)) rfl ct_good ww_188 (mm_4 ww_189 ww_190 sel_38 ww_172) (by decide +kernel) (by decide +kernel)) <|
  mm_at_cons (ok_aload_n (k := 0) (by decide +kernel) rfl) <|
  mm_at_cons (ok_getf (ci := 5) (k := 2) (idx := 46) rfl ct_in5 (by decide) ww_178 rfl rfl (by decide +kernel)) <|
  mm_at_cons (ok_iadd (by decide +kernel)) <|
  mm_at_cons (ok_istore (by decide +kernel)) <|
  mm_at_cons (ok_iload (by decide +kernel)) <|
  mm_at_cons (ok_iload_n (k := 3) (by decide +kernel) rfl) <|
  mm_at_cons (ok_icmp_le (off := 7) (by decide +kernel) (by decide)) <|
  mm_at_cons (ok_iload_n (k := 3) (by decide +kernel) rfl) <|
  mm_at_cons (ok_goto (off := 5) (by decide +kernel) (by decide)) <|
  mm_at_cons (ok_iload (by decide +kernel)) <|
  mm_at_cons (ok_istore (by decide +kernel)) <|
  mm_at_cons (ok_aload_n (k := 0) (by decide +kernel) rfl) <|
  mm_at_cons (ok_iload_n (k := 1) (by decide +kernel) rfl) <|
  mm_at_cons (ok_iconst (n := 0) (by decide +kernel) (by decide)) <|
  mm_at_cons (ok_iload (by decide +kernel)) <|
  mm_at_cons (ok_callV (z := 39) (ci := 5) (idx := 55) rfl hS ⟨rfl, rfl⟩ (mm_rmok (by decide)) rfl ct_good ww_181 (mm_4 ww_182 ww_183 sel_39 ww_172) (by decide +kernel) (by decide +kernel)) <|
  mm_at_cons (ok_iload (by decide +kernel)) <|
  mm_at_cons (ok_iload_n (k := 3) (by decide +kernel) rfl) <|
  mm_at_cons (ok_icmp_eq (off := 7) (by decide +kernel) (by decide)) <|
  mm_at_cons (ok_iconst (n := 1) (by decide +kernel) (by decide)) <|
  mm_at_cons (ok_goto (off := 4) (by decide +kernel) (by decide)) <|
  mm_at_cons (ok_iconst (n := 0) (by decide +kernel) (by decide)) <|
  mm_at_nil
theorem ro_Mo_goes : mm_RtOk prog_7_method_24_code (some .boolean) rt_Mo_goes :=
  mm_rt_cons (Or.inr (Or.inr ⟨rfl, rfl, by decide +kernel⟩)) <|
  mm_rt_nil
end
end
section
section
variable {D : va_G} {ad : Nat → Nat} {cA : Nat → ClassId} {l : Launch} {d : Nat} {S : mm_S}
set_option maxRecDepth 100000 in
set_option maxHeartbeats 4000000 in
theorem po_Mo_lessToGo (hS : mm_Sound ct_GW ct_NW D ct_cl (ct_tys cA) ad cA ct_K ct_kd ct_N l ct_T (mm_rm d) S) : ∀ pc f, mm_at pg_Mo_lessToGo pc = some f → mm_Ok ct_GW ct_NW D ct_cl (ct_tys cA) ad cA ct_K ct_kd ct_N l (mm_rm (d + 1)) "CraneTurnsModel" prog_7_method_25_code 3 S pc f :=
  mm_at_cons (ok_aload_n (k := 0) (by decide +kernel) rfl) <|
  mm_at_cons (ok_iload_n (k := 1) (by decide +kernel) rfl) <|
  mm_at_cons (ok_iconst (n := 2) (by decide +kernel) (by decide)) <|
  mm_at_cons (ok_callV (z := 38) (ci := 5) (idx := 63) rfl hS ⟨rfl, rfl⟩ (mm_rmok (by decide)) rfl ct_good ww_188 (mm_4 ww_189 ww_190 sel_38 ww_172) (by decide +kernel) (by decide +kernel)) <|
  mm_at_cons (ok_istore_n (k := 2) (by decide +kernel) rfl) <|
  mm_at_cons (ok_aload_n (k := 0) (by decide +kernel) rfl) <|
  mm_at_cons (ok_iload_n (k := 1) (by decide +kernel) rfl) <|
  mm_at_cons (ok_iconst (n := 3) (by decide +kernel) (by decide)) <|
  mm_at_cons (ok_aload_n (k := 0) (by decide +kernel) rfl) <|
  mm_at_cons (ok_iload_n (k := 1) (by decide +kernel) rfl) <|
  mm_at_cons (ok_iconst (n := 3) (by decide +kernel) (by decide)) <|
  mm_at_cons (ok_callV (z := 38) (ci := 5) (idx := 63) rfl hS ⟨rfl, rfl⟩ (mm_rmok (by decide)) rfl ct_good ww_188 (mm_4 ww_189 ww_190 sel_38 ww_172) (by decide +kernel) (by decide +kernel)) <|
  mm_at_cons (ok_iconst (n := 1) (by decide +kernel) (by decide)) <|
  mm_at_cons (ok_isub (by decide +kernel)) <|
  mm_at_cons (ok_callV (z := 39) (ci := 5) (idx := 55) rfl hS ⟨rfl, rfl⟩ (mm_rmok (by decide)) rfl ct_good ww_181 (mm_4 ww_182 ww_183 sel_39 ww_172) (by decide +kernel) (by decide +kernel)) <|
  mm_at_cons (ok_aload_n (k := 0) (by decide +kernel) rfl) <|
  mm_at_cons (ok_iload_n (k := 1) (by decide +kernel) rfl) <|
  mm_at_cons (ok_iconst (n := 3) (by decide +kernel) (by decide)) <|
  mm_at_cons (ok_callV (z := 38) (ci := 5) (idx := 63) rfl hS ⟨rfl, rfl⟩ (mm_rmok (by decide)) rfl ct_good ww_188 (mm_4 ww_189 ww_190 sel_38 ww_172) (by decide +kernel) (by decide +kernel)) <|
  mm_at_cons (ok_if_le (off := 4) (by decide +kernel) (by decide)) <|
  mm_at_cons (ok_aload_n (k := 0) (by decide +kernel) rfl) <|
  mm_at_cons (ok_iload_n (k := 1) (by decide +kernel) rfl) <|
  mm_at_cons (ok_iconst (n := 1) (by decide +kernel) (by decide)) <|
  mm_at_cons (ok_callV (z := 38) (ci := 5) (idx := 63) rfl hS ⟨rfl, rfl⟩ (mm_rmok (by decide)) rfl ct_good ww_188 (mm_4 ww_189 ww_190 sel_38 ww_172) (by decide +kernel) (by decide +kernel)) <|
  mm_at_cons (ok_iconst (n := 2) (by decide +kernel) (by decide)) <|
  mm_at_cons (ok_icmp_ne (off := 35) (by decide +kernel) (by decide)) <|
  mm_at_cons (ok_aload_n (k := 0) (by decide +kernel) rfl) <|
  mm_at_cons (ok_iload_n (k := 1) (by decide +kernel) rfl) <|
  mm_at_cons (ok_iconst (n := 0) (by decide +kernel) (by decide)) <|
  mm_at_cons (ok_callV (z := 38) (ci := 5) (idx := 63) rfl hS ⟨rfl, rfl⟩ (mm_rmok (by decide)) rfl ct_good ww_188 (mm_4 ww_189 ww_190 sel_38 ww_172) (by decide +kernel) (by decide +kernel)) <|
  mm_at_cons (ok_aload_n (k := 0) (by decide +kernel) rfl) <|
  mm_at_cons (ok_iload_n (k := 2) (by decide +kernel) rfl) <|
  mm_at_cons (ok_iconst (n := 1) (by decide +kernel) (by decide)) <|
  mm_at_cons (ok_callV (z := 40) (ci := 5) (idx := 70) rfl hS ⟨rfl, rfl⟩ (mm_rmok (by decide)) rfl ct_good ww_195 (mm_4 ww_196 ww_197 sel_40 ww_172) (by decide +kernel) (by decide +kernel)) <|
  mm_at_cons (ok_icmp_ne (off := 12) (by decide +kernel) (by decide)) <|
  mm_at_cons (ok_aload_n (k := 0) (by decide +kernel) rfl) <|
  mm_at_cons (ok_iload_n (k := 1) (by decide +kernel) rfl) <|
  mm_at_cons (ok_iconst (n := 4) (by decide +kernel) (by decide)) <|
  mm_at_cons (ok_callV (z := 53) (ci := 5) (idx := 88) rfl hS ⟨rfl, rfl⟩ (mm_rmok (by decide)) rfl ct_good ww_210 (mm_4 ww_211 ww_212 sel_53 ww_172) (by decide +kernel) (by decide +kernel)) <|
  mm_at_cons (ok_goto (off := 10) (by decide +kernel) (by decide)) <|
  mm_at_cons (ok_aload_n (k := 0) (by decide +kernel) rfl) <|
  mm_at_cons (ok_iload_n (k := 1) (by decide +kernel) rfl) <|
  mm_at_cons (ok_iconst (n := 1) (by decide +kernel) (by decide)) <|
  mm_at_cons (ok_iconst (n := 3) (by decide +kernel) (by decide)) <|
  mm_at_cons (ok_callV (z := 39) (ci := 5) (idx := 55) rfl hS ⟨rfl, rfl⟩ (mm_rmok (by decide)) rfl ct_good ww_181 (mm_4 ww_182 ww_183 sel_39 ww_172) (by decide +kernel) (by decide +kernel)) <|
  mm_at_cons (ok_aload_n (k := 0) (by decide +kernel) rfl) <|
  mm_at_cons (ok_iload_n (k := 2) (by decide +kernel) rfl) <|
  mm_at_cons (ok_iconst (n := 3) (by decide +kernel) (by decide)) <|
  mm_at_cons (ok_iconst (n := 3) (by decide +kernel) (by decide)) <|
  mm_at_cons (ok_callV (z := 41) (ci := 5) (idx := 67) rfl hS ⟨rfl, rfl⟩ (mm_rmok (by decide)) rfl ct_good ww_192 (mm_4 ww_193 ww_194 sel_41 ww_172) (by decide +kernel) (by decide +kernel)) <|
  mm_at_cons (ok_aload_n (k := 0) (by decide +kernel) rfl) <|
  mm_at_cons (ok_iload_n (k := 2) (by decide +kernel) rfl) <|
  mm_at_cons (ok_iconst (n := 5) (by decide +kernel) (by decide)) <|
  mm_at_cons (ok_aload_n (k := 0) (by decide +kernel) rfl) <|
  mm_at_cons (ok_getr (ck := 13) (off := 3) (ci := 5) (k := 8) (idx := 16) rfl ct_in5 (by decide) ww_174 rfl rfl (by decide +kernel)) <|
  mm_at_cons (ok_iconst (n := 0) (by decide +kernel) (by decide)) <|
  mm_at_cons (ok_iald (t9 := 0) (by decide) rfl rfl (by decide +kernel)) <|
  mm_at_cons (ok_iconst (n := 1) (by decide +kernel) (by decide)) <|
  mm_at_cons (ok_iadd (by decide +kernel)) <|
  mm_at_cons (ok_callV (z := 41) (ci := 5) (idx := 67) rfl hS ⟨rfl, rfl⟩ (mm_rmok (by decide)) rfl ct_good ww_192 (mm_4 ww_193 ww_194 sel_41 ww_172) (by decide +kernel) (by decide +kernel)) <|
  mm_at_cons (ok_aload_n (k := 0) (by decide +kernel) rfl) <|
  mm_at_cons (ok_iload_n (k := 1) (by decide +kernel) rfl) <|
  mm_at_cons (ok_iconst (n := 2) (by decide +kernel) (by decide)) <|
  mm_at_cons (ok_iconst (n := (-1)) (by decide +kernel) (by decide)) <|
  mm_at_cons (ok_callV (z := 39) (ci := 5) (idx := 55) rfl hS ⟨rfl, rfl⟩ (mm_rmok (by decide)) rfl ct_good ww_181 (mm_4 ww_182 ww_183 sel_39 ww_172) (by decide +kernel) (by decide +kernel)) <|
  mm_at_cons (ok_aload_n (k := 0) (by decide +kernel) rfl) <|
  mm_at_cons (ok_iload_n (k := 1) (by decide +kernel) rfl) <|
  mm_at_cons (ok_iconst (n := 1) (by decide +kernel) (by decide)) <|
  mm_at_cons (ok_iconst (n := 0) (by decide +kernel) (by decide)) <|
  mm_at_cons (ok_callV (z := 39) (ci := 5) (idx := 55) rfl hS ⟨rfl, rfl⟩ (mm_rmok (by decide)) rfl ct_good ww_181 (mm_4 ww_182 ww_183 sel_39 ww_172) (by decide +kernel) (by decide +kernel)) <|
  mm_at_nil
theorem ro_Mo_lessToGo : mm_RtOk prog_7_method_25_code (none) rt_Mo_lessToGo :=
  mm_rt_cons (Or.inl ⟨rfl, rfl, by decide +kernel⟩) <|
  mm_rt_cons (Or.inl ⟨rfl, rfl, by decide +kernel⟩) <|
  mm_rt_cons (Or.inl ⟨rfl, rfl, by decide +kernel⟩) <|
  mm_rt_nil
set_option maxRecDepth 100000 in
set_option maxHeartbeats 4000000 in
theorem po_Mo_givesWay (hS : mm_Sound ct_GW ct_NW D ct_cl (ct_tys cA) ad cA ct_K ct_kd ct_N l ct_T (mm_rm d) S) : ∀ pc f, mm_at pg_Mo_givesWay pc = some f → mm_Ok ct_GW ct_NW D ct_cl (ct_tys cA) ad cA ct_K ct_kd ct_N l (mm_rm (d + 1)) "CraneTurnsModel" prog_7_method_26_code 4 S pc f :=
  mm_at_cons (ok_aload_n (k := 0) (by decide +kernel) rfl) <|
  mm_at_cons (ok_iload_n (k := 1) (by decide +kernel) rfl) <|
  mm_at_cons (ok_iconst (n := 0) (by decide +kernel) (by decide)) <|
  mm_at_cons (ok_callV (z := 38) (ci := 5) (idx := 63) rfl hS ⟨rfl, rfl⟩ (mm_rmok (by decide)) rfl ct_good ww_188 (mm_4 ww_189 ww_190 sel_38 ww_172) (by decide +kernel) (by decide +kernel)) <|
  mm_at_cons (ok_istore_n (k := 2) (by decide +kernel) rfl) <|
  mm_at_cons (ok_aload_n (k := 0) (by decide +kernel) rfl) <|
  mm_at_cons (ok_iload_n (k := 1) (by decide +kernel) rfl) <|
  mm_at_cons (ok_bipush (n := 6) (by decide +kernel) (by decide)) <|
  mm_at_cons (ok_aload_n (k := 0) (by decide +kernel) rfl) <|
  mm_at_cons (ok_iload_n (k := 1) (by decide +kernel) rfl) <|
  mm_at_cons (ok_bipush (n := 6) (by decide +kernel) (by decide)) <|
  mm_at_cons (ok_callV (z := 38) (ci := 5) (idx := 63) rfl hS ⟨rfl, rfl⟩ (mm_rmok (by decide)) rfl ct_good ww_188 (mm_4 ww_189 ww_190 sel_38 ww_172) (by decide +kernel) (by decide +kernel)) <|
  mm_at_cons (ok_iconst (n := 1) (by decide +kernel) (by decide)) <|
  mm_at_cons (ok_iadd (by decide +kernel)) <|
  mm_at_cons (ok_callV (z := 39) (ci := 5) (idx := 55) rfl hS ⟨rfl, rfl⟩ (mm_rmok (by decide)) rfl ct_good ww_181 (mm_4 ww_182 ww_183 sel_39 ww_172) (by decide +kernel) (by decide +kernel)) <|
  mm_at_cons (ok_iload_n (k := 1) (by decide +kernel) rfl) <|
  mm_at_cons (ok_if_le (off := 78) (by decide +kernel) (by decide)) <|
  mm_at_cons (ok_aload_n (k := 0) (by decide +kernel) rfl) <|
  mm_at_cons (ok_iload_n (k := 1) (by decide +kernel) rfl) <|
  mm_at_cons (ok_iconst (n := 1) (by decide +kernel) (by decide)) <|
  mm_at_cons (ok_isub (by decide +kernel)) <|
  mm_at_cons (ok_callV (z := 51) (ci := 5) (idx := 91) rfl hS ⟨rfl, rfl⟩ (mm_rmok (by decide)) rfl ct_good ww_213 (mm_4 ww_214 ww_215 sel_51 ww_172) (by decide +kernel) (by decide +kernel)) <|
  mm_at_cons (ok_if_eq (off := 68) (by decide +kernel) (by decide)) <|
  mm_at_cons (ok_aload_n (k := 0) (by decide +kernel) rfl) <|
  mm_at_cons (ok_iload_n (k := 1) (by decide +kernel) rfl) <|
  mm_at_cons (ok_iconst (n := 1) (by decide +kernel) (by decide)) <|
  mm_at_cons (ok_isub (by decide +kernel)) <|
  mm_at_cons (ok_callV (z := 52) (ci := 5) (idx := 94) rfl hS ⟨rfl, rfl⟩ (mm_rmok (by decide)) rfl ct_good ww_216 (mm_4 ww_217 ww_218 sel_52 ww_172) (by decide +kernel) (by decide +kernel)) <|
  mm_at_cons (ok_iload_n (k := 2) (by decide +kernel) rfl) <|
  mm_at_cons (ok_aload_n (k := 0) (by decide +kernel) rfl) <|
  mm_at_cons (ok_getf (ci := 5) (k := 2) (idx := 46) rfl ct_in5 (by decide) ww_178 rfl rfl (by decide +kernel)) <|
  mm_at_cons (ok_isub (by decide +kernel)) <|
  mm_at_cons (ok_icmp_le (off := 52) (by decide +kernel) (by decide)) <|
  mm_at_cons (ok_aload_n (k := 0) (by decide +kernel) rfl) <|
  mm_at_cons (ok_iload_n (k := 1) (by decide +kernel) rfl) <|
  mm_at_cons (ok_iconst (n := 1) (by decide +kernel) (by decide)) <|
  mm_at_cons (ok_isub (by decide +kernel)) <|
  mm_at_cons (ok_callV (z := 52) (ci := 5) (idx := 94) rfl hS ⟨rfl, rfl⟩ (mm_rmok (by decide)) rfl ct_good ww_216 (mm_4 ww_217 ww_218 sel_52 ww_172) (by decide +kernel) (by decide +kernel)) <|
  mm_at_cons (ok_aload_n (k := 0) (by decide +kernel) rfl) <|
  mm_at_cons (ok_getf (ci := 5) (k := 2) (idx := 46) rfl ct_in5 (by decide) ww_178 rfl rfl (by decide +kernel)) <|
  mm_at_cons (ok_iadd (by decide +kernel)) <|
  mm_at_cons (ok_istore_n (k := 3) (by decide +kernel) rfl) <|
  mm_at_cons (ok_iload_n (k := 3) (by decide +kernel) rfl) <|
  mm_at_cons (ok_aload_n (k := 0) (by decide +kernel) rfl) <|
  mm_at_cons (ok_getr (ck := 12) (off := 2) (ci := 5) (k := 7) (idx := 13) rfl ct_in5 (by decide) ww_184 rfl rfl (by decide +kernel)) <|
  mm_at_cons (ok_iload_n (k := 1) (by decide +kernel) rfl) <|
  mm_at_cons (ok_iald (t9 := 0) (by decide) rfl rfl (by decide +kernel)) <|
  mm_at_cons (ok_icmp_le (off := 12) (by decide +kernel) (by decide)) <|
  mm_at_cons (ok_aload_n (k := 0) (by decide +kernel) rfl) <|
  mm_at_cons (ok_getr (ck := 12) (off := 2) (ci := 5) (k := 7) (idx := 13) rfl ct_in5 (by decide) ww_184 rfl rfl (by decide +kernel)) <|
  mm_at_cons (ok_iload_n (k := 1) (by decide +kernel) rfl) <|
  mm_at_cons (ok_iald (t9 := 0) (by decide) rfl rfl (by decide +kernel)) <|
  mm_at_cons (ok_goto (off := 4) (by decide +kernel) (by decide)) <|
  mm_at_cons (ok_iload_n (k := 3) (by decide +kernel) rfl) <|
  mm_at_cons (ok_istore_n (k := 3) (by decide +kernel) rfl) <|
  mm_at_cons (ok_iload_n (k := 3) (by decide +kernel) rfl) <|
  mm_at_cons (ok_iload_n (k := 2) (by decide +kernel) rfl) <|
  mm_at_cons (ok_icmp_le (off := 10) (by decide +kernel) (by decide)) <|
  mm_at_cons (ok_aload_n (k := 0) (by decide +kernel) rfl) <|
  mm_at_cons (ok_iload_n (k := 1) (by decide +kernel) rfl) <|
  mm_at_cons (ok_iload_n (k := 3) (by decide +kernel) rfl) <|
  mm_at_cons (ok_callV (z := 55) (ci := 5) (idx := 97) rfl hS ⟨rfl, rfl⟩ (mm_rmok (by decide)) rfl ct_good ww_219 (mm_4 ww_220 ww_221 sel_55 ww_172) (by decide +kernel) (by decide +kernel)) <|
  mm_at_cons (ok_pop (by decide +kernel)) <|
  mm_at_cons (ok_goto (off := 85) (by decide +kernel) (by decide)) <|
  mm_at_cons (ok_iload_n (k := 1) (by decide +kernel) rfl) <|
  mm_at_cons (ok_iconst (n := 1) (by decide +kernel) (by decide)) <|
  mm_at_cons (ok_iadd (by decide +kernel)) <|
  mm_at_cons (ok_aload_n (k := 0) (by decide +kernel) rfl) <|
  mm_at_cons (ok_getf (ci := 5) (k := 1) (idx := 32) rfl ct_in5 (by decide) ww_168 rfl rfl (by decide +kernel)) <|
  mm_at_cons (ok_icmp_ge (off := 75) (by decide +kernel) (by decide)) <|
  mm_at_cons (ok_aload_n (k := 0) (by decide +kernel) rfl) <|
  mm_at_cons (ok_iload_n (k := 1) (by decide +kernel) rfl) <|
  mm_at_cons (ok_iconst (n := 1) (by decide +kernel) (by decide)) <|
  mm_at_cons (ok_iadd (by decide +kernel)) <|
  mm_at_cons (ok_callV (z := 51) (ci := 5) (idx := 91) rfl hS ⟨rfl, rfl⟩ (mm_rmok (by decide)) rfl ct_good ww_213 (mm_4 ww_214 ww_215 sel_51 ww_172) (by decide +kernel) (by decide +kernel)) <|
  mm_at_cons (ok_if_eq (off := 65) (by decide +kernel) (by decide)) <|
  mm_at_cons (ok_aload_n (k := 0) (by decide +kernel) rfl) <|
  mm_at_cons (ok_iload_n (k := 1) (by decide +kernel) rfl) <|
  mm_at_cons (ok_iconst (n := 1) (by decide +kernel) (by decide)) <|
  mm_at_cons (ok_iadd (by decide +kernel)) <|
  mm_at_cons (ok_callV (z := 52) (ci := 5) (idx := 94) rfl hS ⟨rfl, rfl⟩ (mm_rmok (by decide)) rfl ct_good ww_216 (mm_4 ww_217 ww_218 sel_52 ww_172) (by decide +kernel) (by decide +kernel)) <|
  mm_at_cons (ok_iload_n (k := 2) (by decide +kernel) rfl) <|
  mm_at_cons (ok_aload_n (k := 0) (by decide +kernel) rfl) <|
  mm_at_cons (ok_getf (ci := 5) (k := 2) (idx := 46) rfl ct_in5 (by decide) ww_178 rfl rfl (by decide +kernel)) <|
  mm_at_cons (ok_iadd (by decide +kernel)) <|
  mm_at_cons (ok_icmp_ge (off := 49) (by decide +kernel) (by decide)) <|
  mm_at_cons (ok_aload_n (k := 0) (by decide +kernel) rfl) <|
  mm_at_cons (ok_iload_n (k := 1) (by decide +kernel) rfl) <|
  mm_at_cons (ok_iconst (n := 1) (by decide +kernel) (by decide)) <|
  mm_at_cons (ok_iadd (by decide +kernel)) <|
  mm_at_cons (ok_callV (z := 52) (ci := 5) (idx := 94) rfl hS ⟨rfl, rfl⟩ (mm_rmok (by decide)) rfl ct_good ww_216 (mm_4 ww_217 ww_218 sel_52 ww_172) (by decide +kernel) (by decide +kernel)) <|
  mm_at_cons (ok_aload_n (k := 0) (by decide +kernel) rfl) <|
  mm_at_cons (ok_getf (ci := 5) (k := 2) (idx := 46) rfl ct_in5 (by decide) ww_178 rfl rfl (by decide +kernel)) <|
  mm_at_cons (ok_isub (by decide +kernel)) <|
  mm_at_cons (ok_istore_n (k := 3) (by decide +kernel) rfl) <|
  mm_at_cons (ok_iload_n (k := 3) (by decide +kernel) rfl) <|
  mm_at_cons (ok_aload_n (k := 0) (by decide +kernel) rfl) <|
  mm_at_cons (ok_getr (ck := 12) (off := 1) (ci := 5) (k := 6) (idx := 7) rfl ct_in5 (by decide) ww_191 rfl rfl (by decide +kernel)) <|
  mm_at_cons (ok_iload_n (k := 1) (by decide +kernel) rfl) <|
  mm_at_cons (ok_iald (t9 := 0) (by decide) rfl rfl (by decide +kernel)) <|
  mm_at_cons (ok_icmp_ge (off := 12) (by decide +kernel) (by decide)) <|
  mm_at_cons (ok_aload_n (k := 0) (by decide +kernel) rfl) <|
  mm_at_cons (ok_getr (ck := 12) (off := 1) (ci := 5) (k := 6) (idx := 7) rfl ct_in5 (by decide) ww_191 rfl rfl (by decide +kernel)) <|
  mm_at_cons (ok_iload_n (k := 1) (by decide +kernel) rfl) <|
  mm_at_cons (ok_iald (t9 := 0) (by decide) rfl rfl (by decide +kernel)) <|
  mm_at_cons (ok_goto (off := 4) (by decide +kernel) (by decide)) <|
  mm_at_cons (ok_iload_n (k := 3) (by decide +kernel) rfl) <|
  mm_at_cons (ok_istore_n (k := 3) (by decide +kernel) rfl) <|
  mm_at_cons (ok_iload_n (k := 3) (by decide +kernel) rfl) <|
  mm_at_cons (ok_iload_n (k := 2) (by decide +kernel) rfl) <|
  mm_at_cons (ok_icmp_ge (off := 10) (by decide +kernel) (by decide)) <|
  mm_at_cons (ok_aload_n (k := 0) (by decide +kernel) rfl) <|
  mm_at_cons (ok_iload_n (k := 1) (by decide +kernel) rfl) <|
  mm_at_cons (ok_iload_n (k := 3) (by decide +kernel) rfl) <|
  mm_at_cons (ok_callV (z := 55) (ci := 5) (idx := 97) rfl hS ⟨rfl, rfl⟩ (mm_rmok (by decide)) rfl ct_good ww_219 (mm_4 ww_220 ww_221 sel_55 ww_172) (by decide +kernel) (by decide +kernel)) <|
  mm_at_cons (ok_pop (by decide +kernel)) <|
  mm_at_nil
theorem ro_Mo_givesWay : mm_RtOk prog_7_method_26_code (none) rt_Mo_givesWay :=
  mm_rt_cons (Or.inl ⟨rfl, rfl, by decide +kernel⟩) <|
  mm_rt_nil
set_option maxRecDepth 100000 in
set_option maxHeartbeats 4000000 in
theorem po_Mo_second (hS : mm_Sound ct_GW ct_NW D ct_cl (ct_tys cA) ad cA ct_K ct_kd ct_N l ct_T (mm_rm d) S) : ∀ pc f, mm_at pg_Mo_second pc = some f → mm_Ok ct_GW ct_NW D ct_cl (ct_tys cA) ad cA ct_K ct_kd ct_N l (mm_rm (d + 1)) "CraneTurnsModel" prog_7_method_27_code 3 S pc f :=
  mm_at_cons (ok_aload_n (k := 0) (by decide +kernel) rfl) <|
  mm_at_cons (ok_iload_n (k := 1) (by decide +kernel) rfl) <|
  mm_at_cons (ok_bipush (n := 8) (by decide +kernel) (by decide)) <|
  mm_at_cons (ok_callV (z := 38) (ci := 5) (idx := 63) rfl hS ⟨rfl, rfl⟩ (mm_rmok (by decide)) rfl ct_good ww_188 (mm_4 ww_189 ww_190 sel_38 ww_172) (by decide +kernel) (by decide +kernel)) <|
  mm_at_cons (ok_iconst (n := 1) (by decide +kernel) (by decide)) <|
  mm_at_cons (ok_icmp_ne (off := 20) (by decide +kernel) (by decide)) <|
  mm_at_cons (ok_aload_n (k := 0) (by decide +kernel) rfl) <|
  mm_at_cons (ok_iload_n (k := 1) (by decide +kernel) rfl) <|
  mm_at_cons (ok_bipush (n := 7) (by decide +kernel) (by decide)) <|
  mm_at_cons (ok_aload_n (k := 0) (by decide +kernel) rfl) <|
  mm_at_cons (ok_iload_n (k := 1) (by decide +kernel) rfl) <|
  mm_at_cons (ok_bipush (n := 7) (by decide +kernel) (by decide)) <|
  mm_at_cons (ok_callV (z := 38) (ci := 5) (idx := 63) rfl hS ⟨rfl, rfl⟩ (mm_rmok (by decide)) rfl ct_good ww_188 (mm_4 ww_189 ww_190 sel_38 ww_172) (by decide +kernel) (by decide +kernel)) <|
  mm_at_cons (ok_iconst (n := 1) (by decide +kernel) (by decide)) <|
  mm_at_cons (ok_iadd (by decide +kernel)) <|
  mm_at_cons (ok_callV (z := 39) (ci := 5) (idx := 55) rfl hS ⟨rfl, rfl⟩ (mm_rmok (by decide)) rfl ct_good ww_181 (mm_4 ww_182 ww_183 sel_39 ww_172) (by decide +kernel) (by decide +kernel)) <|
  mm_at_cons (ok_aload_n (k := 0) (by decide +kernel) rfl) <|
  mm_at_cons (ok_iload_n (k := 1) (by decide +kernel) rfl) <|
  mm_at_cons (ok_iconst (n := 2) (by decide +kernel) (by decide)) <|
  mm_at_cons (ok_callV (z := 38) (ci := 5) (idx := 63) rfl hS ⟨rfl, rfl⟩ (mm_rmok (by decide)) rfl ct_good ww_188 (mm_4 ww_189 ww_190 sel_38 ww_172) (by decide +kernel) (by decide +kernel)) <|
  mm_at_cons (ok_if_ge (off := 8) (by decide +kernel) (by decide)) <|
  mm_at_cons (ok_aload_n (k := 0) (by decide +kernel) rfl) <|
  mm_at_cons (ok_iload_n (k := 1) (by decide +kernel) rfl) <|
  mm_at_cons (ok_callV (z := 54) (ci := 5) (idx := 100) rfl hS ⟨rfl, rfl⟩ (mm_rmok (by decide)) rfl ct_good ww_222 (mm_4 ww_223 ww_224 sel_54 ww_172) (by decide +kernel) (by decide +kernel)) <|
  mm_at_cons (ok_aload_n (k := 0) (by decide +kernel) rfl) <|
  mm_at_cons (ok_iload_n (k := 1) (by decide +kernel) rfl) <|
  mm_at_cons (ok_iconst (n := 2) (by decide +kernel) (by decide)) <|
  mm_at_cons (ok_callV (z := 38) (ci := 5) (idx := 63) rfl hS ⟨rfl, rfl⟩ (mm_rmok (by decide)) rfl ct_good ww_188 (mm_4 ww_189 ww_190 sel_38 ww_172) (by decide +kernel) (by decide +kernel)) <|
  mm_at_cons (ok_if_ge (off := 9) (by decide +kernel) (by decide)) <|
  mm_at_cons (ok_aload_n (k := 0) (by decide +kernel) rfl) <|
  mm_at_cons (ok_iload_n (k := 1) (by decide +kernel) rfl) <|
  mm_at_cons (ok_callV (z := 57) (ci := 5) (idx := 104) rfl hS ⟨rfl, rfl⟩ (mm_rmok (by decide)) rfl ct_good ww_225 (mm_4 ww_226 ww_227 sel_57 ww_172) (by decide +kernel) (by decide +kernel)) <|
  mm_at_cons (ok_iconst (n := 1) (by decide +kernel) (by decide)) <|
  mm_at_cons (ok_istore_n (k := 2) (by decide +kernel) rfl) <|
  mm_at_cons (ok_aload_n (k := 0) (by decide +kernel) rfl) <|
  mm_at_cons (ok_iload_n (k := 1) (by decide +kernel) rfl) <|
  mm_at_cons (ok_callV (z := 51) (ci := 5) (idx := 91) rfl hS ⟨rfl, rfl⟩ (mm_rmok (by decide)) rfl ct_good ww_213 (mm_4 ww_214 ww_215 sel_51 ww_172) (by decide +kernel) (by decide +kernel)) <|
  mm_at_cons (ok_if_eq (off := 51) (by decide +kernel) (by decide)) <|
  mm_at_cons (ok_aload_n (k := 0) (by decide +kernel) rfl) <|
  mm_at_cons (ok_iload_n (k := 1) (by decide +kernel) rfl) <|
  mm_at_cons (ok_aload_n (k := 0) (by decide +kernel) rfl) <|
  mm_at_cons (ok_iload_n (k := 1) (by decide +kernel) rfl) <|
  mm_at_cons (ok_callV (z := 52) (ci := 5) (idx := 94) rfl hS ⟨rfl, rfl⟩ (mm_rmok (by decide)) rfl ct_good ww_216 (mm_4 ww_217 ww_218 sel_52 ww_172) (by decide +kernel) (by decide +kernel)) <|
  mm_at_cons (ok_callV (z := 55) (ci := 5) (idx := 97) rfl hS ⟨rfl, rfl⟩ (mm_rmok (by decide)) rfl ct_good ww_219 (mm_4 ww_220 ww_221 sel_55 ww_172) (by decide +kernel) (by decide +kernel)) <|
  mm_at_cons (ok_istore_n (k := 2) (by decide +kernel) rfl) <|
  mm_at_cons (ok_aload_n (k := 0) (by decide +kernel) rfl) <|
  mm_at_cons (ok_iload_n (k := 1) (by decide +kernel) rfl) <|
  mm_at_cons (ok_iconst (n := 0) (by decide +kernel) (by decide)) <|
  mm_at_cons (ok_callV (z := 38) (ci := 5) (idx := 63) rfl hS ⟨rfl, rfl⟩ (mm_rmok (by decide)) rfl ct_good ww_188 (mm_4 ww_189 ww_190 sel_38 ww_172) (by decide +kernel) (by decide +kernel)) <|
  mm_at_cons (ok_aload_n (k := 0) (by decide +kernel) rfl) <|
  mm_at_cons (ok_iload_n (k := 1) (by decide +kernel) rfl) <|
  mm_at_cons (ok_callV (z := 52) (ci := 5) (idx := 94) rfl hS ⟨rfl, rfl⟩ (mm_rmok (by decide)) rfl ct_good ww_216 (mm_4 ww_217 ww_218 sel_52 ww_172) (by decide +kernel) (by decide +kernel)) <|
  mm_at_cons (ok_icmp_ne (off := 31) (by decide +kernel) (by decide)) <|
  mm_at_cons (ok_aload_n (k := 0) (by decide +kernel) rfl) <|
  mm_at_cons (ok_iload_n (k := 1) (by decide +kernel) rfl) <|
  mm_at_cons (ok_aload_n (k := 0) (by decide +kernel) rfl) <|
  mm_at_cons (ok_iload_n (k := 1) (by decide +kernel) rfl) <|
  mm_at_cons (ok_iconst (n := 1) (by decide +kernel) (by decide)) <|
  mm_at_cons (ok_callV (z := 38) (ci := 5) (idx := 63) rfl hS ⟨rfl, rfl⟩ (mm_rmok (by decide)) rfl ct_good ww_188 (mm_4 ww_189 ww_190 sel_38 ww_172) (by decide +kernel) (by decide +kernel)) <|
  mm_at_cons (ok_iconst (n := 1) (by decide +kernel) (by decide)) <|
  mm_at_cons (ok_icmp_ne (off := 7) (by decide +kernel) (by decide)) <|
  mm_at_cons (ok_iconst (n := 2) (by decide +kernel) (by decide)) <|
  mm_at_cons (ok_goto (off := 4) (by decide +kernel) (by decide)) <|
  mm_at_cons (ok_iconst (n := 4) (by decide +kernel) (by decide)) <|
  mm_at_cons (ok_callV (z := 53) (ci := 5) (idx := 88) rfl hS ⟨rfl, rfl⟩ (mm_rmok (by decide)) rfl ct_good ww_210 (mm_4 ww_211 ww_212 sel_53 ww_172) (by decide +kernel) (by decide +kernel)) <|
  mm_at_cons (ok_goto (off := 8) (by decide +kernel) (by decide)) <|
  mm_at_cons (ok_aload_n (k := 0) (by decide +kernel) rfl) <|
  mm_at_cons (ok_iload_n (k := 1) (by decide +kernel) rfl) <|
  mm_at_cons (ok_callV (z := 56) (ci := 5) (idx := 107) rfl hS ⟨rfl, rfl⟩ (mm_rmok (by decide)) rfl ct_good ww_228 (mm_4 ww_229 ww_230 sel_56 ww_172) (by decide +kernel) (by decide +kernel)) <|
  mm_at_cons (ok_aload_n (k := 0) (by decide +kernel) rfl) <|
  mm_at_cons (ok_iload_n (k := 1) (by decide +kernel) rfl) <|
  mm_at_cons (ok_iload_n (k := 2) (by decide +kernel) rfl) <|
  mm_at_cons (ok_if_eq (off := 7) (by decide +kernel) (by decide)) <|
  mm_at_cons (ok_iconst (n := 4) (by decide +kernel) (by decide)) <|
  mm_at_cons (ok_goto (off := 4) (by decide +kernel) (by decide)) <|
  mm_at_cons (ok_iconst (n := 5) (by decide +kernel) (by decide)) <|
  mm_at_cons (ok_aload_n (k := 0) (by decide +kernel) rfl) <|
  mm_at_cons (ok_iload_n (k := 1) (by decide +kernel) rfl) <|
  mm_at_cons (ok_iload_n (k := 2) (by decide +kernel) rfl) <|
  mm_at_cons (ok_if_eq (off := 7) (by decide +kernel) (by decide)) <|
  mm_at_cons (ok_iconst (n := 4) (by decide +kernel) (by decide)) <|
  mm_at_cons (ok_goto (off := 4) (by decide +kernel) (by decide)) <|
  mm_at_cons (ok_iconst (n := 5) (by decide +kernel) (by decide)) <|
  mm_at_cons (ok_callV (z := 38) (ci := 5) (idx := 63) rfl hS ⟨rfl, rfl⟩ (mm_rmok (by decide)) rfl ct_good ww_188 (mm_4 ww_189 ww_190 sel_38 ww_172) (by decide +kernel) (by decide +kernel)) <|
  mm_at_cons (ok_iconst (n := 1) (by decide +kernel) (by decide)) <|
  mm_at_cons (ok_iadd (by decide +kernel)) <|
  mm_at_cons (ok_callV (z := 39) (ci := 5) (idx := 55) rfl hS ⟨rfl, rfl⟩ (mm_rmok (by decide)) rfl ct_good ww_181 (mm_4 ww_182 ww_183 sel_39 ww_172) (by decide +kernel) (by decide +kernel)) <|
  mm_at_nil
theorem ro_Mo_second : mm_RtOk prog_7_method_27_code (none) rt_Mo_second :=
  mm_rt_cons (Or.inl ⟨rfl, rfl, by decide +kernel⟩) <|
  mm_rt_cons (Or.inl ⟨rfl, rfl, by decide +kernel⟩) <|
  mm_rt_cons (Or.inl ⟨rfl, rfl, by decide +kernel⟩) <|
  mm_rt_nil
set_option maxRecDepth 100000 in
set_option maxHeartbeats 4000000 in
theorem po_Mo_secondOfAll (hS : mm_Sound ct_GW ct_NW D ct_cl (ct_tys cA) ad cA ct_K ct_kd ct_N l ct_T (mm_rm d) S) : ∀ pc f, mm_at pg_Mo_secondOfAll pc = some f → mm_Ok ct_GW ct_NW D ct_cl (ct_tys cA) ad cA ct_K ct_kd ct_N l (mm_rm (d + 1)) "CraneTurnsModel" prog_7_method_28_code 3 S pc f :=
  mm_at_cons (ok_iconst (n := 0) (by decide +kernel) (by decide)) <|
  mm_at_cons (ok_istore_n (k := 1) (by decide +kernel) rfl) <|
  mm_at_cons (ok_iload_n (k := 1) (by decide +kernel) rfl) <|
  mm_at_cons (ok_aload_n (k := 0) (by decide +kernel) rfl) <|
  mm_at_cons (ok_getf (ci := 5) (k := 1) (idx := 32) rfl ct_in5 (by decide) ww_168 rfl rfl (by decide +kernel)) <|
  mm_at_cons (ok_icmp_ge (off := 14) (by decide +kernel) (by decide)) <|
  mm_at_cons (ok_aload_n (k := 0) (by decide +kernel) rfl) <|
  mm_at_cons (ok_iload_n (k := 1) (by decide +kernel) rfl) <|
  mm_at_cons (ok_callV (z := 58) (ci := 5) (idx := 110) rfl hS ⟨rfl, rfl⟩ (mm_rmok (by decide)) rfl ct_good ww_231 (mm_4 ww_232 ww_233 sel_58 ww_172) (by decide +kernel) (by decide +kernel)) <|
  mm_at_cons (ok_iinc (n := 1) (by decide +kernel) (by decide)) <|
  mm_at_cons (ok_goto (off := (-16)) (by decide +kernel) (by decide)) <|
  mm_at_cons (ok_aload_n (k := 0) (by decide +kernel) rfl) <|
  mm_at_cons (ok_getr (ck := 13) (off := 3) (ci := 5) (k := 8) (idx := 16) rfl ct_in5 (by decide) ww_174 rfl rfl (by decide +kernel)) <|
  mm_at_cons (ok_iconst (n := 0) (by decide +kernel) (by decide)) <|
  mm_at_cons (ok_dup2 (by decide +kernel)) <|
  mm_at_cons (ok_iald (t9 := 0) (by decide) rfl rfl (by decide +kernel)) <|
  mm_at_cons (ok_iconst (n := 1) (by decide +kernel) (by decide)) <|
  mm_at_cons (ok_iadd (by decide +kernel)) <|
  mm_at_cons (ok_iast (t9 := 0) (by decide) rfl rfl (by decide +kernel)) <|
  mm_at_cons (ok_iconst (n := 1) (by decide +kernel) (by decide)) <|
  mm_at_cons (ok_istore_n (k := 1) (by decide +kernel) rfl) <|
  mm_at_cons (ok_iload_n (k := 1) (by decide +kernel) rfl) <|
  mm_at_cons (ok_aload_n (k := 0) (by decide +kernel) rfl) <|
  mm_at_cons (ok_getf (ci := 5) (k := 1) (idx := 32) rfl ct_in5 (by decide) ww_168 rfl rfl (by decide +kernel)) <|
  mm_at_cons (ok_icmp_ge (off := 51) (by decide +kernel) (by decide)) <|
  mm_at_cons (ok_aload_n (k := 0) (by decide +kernel) rfl) <|
  mm_at_cons (ok_iload_n (k := 1) (by decide +kernel) rfl) <|
  mm_at_cons (ok_iconst (n := 0) (by decide +kernel) (by decide)) <|
  mm_at_cons (ok_callV (z := 38) (ci := 5) (idx := 63) rfl hS ⟨rfl, rfl⟩ (mm_rmok (by decide)) rfl ct_good ww_188 (mm_4 ww_189 ww_190 sel_38 ww_172) (by decide +kernel) (by decide +kernel)) <|
  mm_at_cons (ok_aload_n (k := 0) (by decide +kernel) rfl) <|
  mm_at_cons (ok_iload_n (k := 1) (by decide +kernel) rfl) <|
  mm_at_cons (ok_iconst (n := 1) (by decide +kernel) (by decide)) <|
  mm_at_cons (ok_isub (by decide +kernel)) <|
  mm_at_cons (ok_iconst (n := 0) (by decide +kernel) (by decide)) <|
  mm_at_cons (ok_callV (z := 38) (ci := 5) (idx := 63) rfl hS ⟨rfl, rfl⟩ (mm_rmok (by decide)) rfl ct_good ww_188 (mm_4 ww_189 ww_190 sel_38 ww_172) (by decide +kernel) (by decide +kernel)) <|
  mm_at_cons (ok_isub (by decide +kernel)) <|
  mm_at_cons (ok_istore_n (k := 2) (by decide +kernel) rfl) <|
  mm_at_cons (ok_aload_n (k := 0) (by decide +kernel) rfl) <|
  mm_at_cons (ok_getr (ck := 13) (off := 3) (ci := 5) (k := 8) (idx := 16) rfl ct_in5 (by decide) ww_174 rfl rfl (by decide +kernel)) <|
  mm_at_cons (ok_iconst (n := 1) (by decide +kernel) (by decide)) <|
  mm_at_cons (ok_iload_n (k := 2) (by decide +kernel) rfl) <|
  mm_at_cons (ok_aload_n (k := 0) (by decide +kernel) rfl) <|
  mm_at_cons (ok_getr (ck := 13) (off := 3) (ci := 5) (k := 8) (idx := 16) rfl ct_in5 (by decide) ww_174 rfl rfl (by decide +kernel)) <|
  mm_at_cons (ok_iconst (n := 1) (by decide +kernel) (by decide)) <|
  mm_at_cons (ok_iald (t9 := 0) (by decide) rfl rfl (by decide +kernel)) <|
  mm_at_cons (ok_icmp_ge (off := 7) (by decide +kernel) (by decide)) <|
  mm_at_cons (ok_iload_n (k := 2) (by decide +kernel) rfl) <|
  mm_at_cons (ok_goto (off := 9) (by decide +kernel) (by decide)) <|
  mm_at_cons (ok_aload_n (k := 0) (by decide +kernel) rfl) <|
  mm_at_cons (ok_getr (ck := 13) (off := 3) (ci := 5) (k := 8) (idx := 16) rfl ct_in5 (by decide) ww_174 rfl rfl (by decide +kernel)) <|
  mm_at_cons (ok_iconst (n := 1) (by decide +kernel) (by decide)) <|
  mm_at_cons (ok_iald (t9 := 0) (by decide) rfl rfl (by decide +kernel)) <|
  mm_at_cons (ok_iast (t9 := 0) (by decide) rfl rfl (by decide +kernel)) <|
  mm_at_cons (ok_iinc (n := 1) (by decide +kernel) (by decide)) <|
  mm_at_cons (ok_goto (off := (-53)) (by decide +kernel) (by decide)) <|
  mm_at_nil
theorem ro_Mo_secondOfAll : mm_RtOk prog_7_method_28_code (none) rt_Mo_secondOfAll :=
  mm_rt_cons (Or.inl ⟨rfl, rfl, by decide +kernel⟩) <|
  mm_rt_nil
set_option maxRecDepth 100000 in
set_option maxHeartbeats 4000000 in
theorem po_Mo_run (hS : mm_Sound ct_GW ct_NW D ct_cl (ct_tys cA) ad cA ct_K ct_kd ct_N l ct_T (mm_rm d) S) : ∀ pc f, mm_at pg_Mo_run pc = some f → mm_Ok ct_GW ct_NW D ct_cl (ct_tys cA) ad cA ct_K ct_kd ct_N l (mm_rm (d + 1)) "CraneTurnsModel" prog_7_method_29_code 3 S pc f :=
  mm_at_cons (ok_aload_n (k := 0) (by decide +kernel) rfl) <|
  mm_at_cons (ok_aload_n (k := 0) (by decide +kernel) rfl) <|
  mm_at_cons (ok_getf (ci := 5) (k := 1) (idx := 32) rfl ct_in5 (by decide) ww_168 rfl rfl (by decide +kernel)) <|
  mm_at_cons (ok_if_ne (off := 7) (by decide +kernel) (by decide)) <|
  mm_at_cons (ok_iconst (n := 1) (by decide +kernel) (by decide)) <|
  mm_at_cons (ok_goto (off := 4) (by decide +kernel) (by decide)) <|
  mm_at_cons (ok_iconst (n := 0) (by decide +kernel) (by decide)) <|
  mm_at_cons (ok_iload_n (k := 1) (by decide +kernel) rfl) <|
  mm_at_cons (ok_iconst (n := 0) (by decide +kernel) (by decide)) <|
  mm_at_cons (ok_sipush (n := 1000) (by decide +kernel) (by decide)) <|
  mm_at_cons (ok_callS (z := 35) (idx := 35) hS ⟨rfl, rfl⟩ (mm_rmok (by decide)) ct_good ww_169 (mm_3 ww_170 ww_171 ww_172) (by decide +kernel) (by decide +kernel)) <|
  mm_at_cons (ok_if_eq (off := 16) (by decide +kernel) (by decide)) <|
  mm_at_cons (ok_aload_n (k := 0) (by decide +kernel) rfl) <|
  mm_at_cons (ok_getr (ck := 13) (off := 3) (ci := 5) (k := 8) (idx := 16) rfl ct_in5 (by decide) ww_174 rfl rfl (by decide +kernel)) <|
  mm_at_cons (ok_iconst (n := 0) (by decide +kernel) (by decide)) <|
  mm_at_cons (ok_iald (t9 := 0) (by decide) rfl rfl (by decide +kernel)) <|
  mm_at_cons (ok_iload_n (k := 1) (by decide +kernel) rfl) <|
  mm_at_cons (ok_iadd (by decide +kernel)) <|
  mm_at_cons (ok_ldc (idx := 113) ww_234 (by decide +kernel)) <|
  mm_at_cons (ok_icmp_le (off := 7) (by decide +kernel) (by decide)) <|
  mm_at_cons (ok_iconst (n := 1) (by decide +kernel) (by decide)) <|
  mm_at_cons (ok_goto (off := 4) (by decide +kernel) (by decide)) <|
  mm_at_cons (ok_iconst (n := 0) (by decide +kernel) (by decide)) <|
  mm_at_cons (ok_iconst (n := 0) (by decide +kernel) (by decide)) <|
  mm_at_cons (ok_iconst (n := 0) (by decide +kernel) (by decide)) <|
  mm_at_cons (ok_callV (z := 34) (ci := 5) (idx := 42) rfl hS ⟨rfl, rfl⟩ (mm_rmok (by decide)) rfl ct_good ww_175 (mm_4 ww_176 ww_177 sel_34 ww_172) (by decide +kernel) (by decide +kernel)) <|
  mm_at_cons (ok_if_eq (off := 5) (by decide +kernel) (by decide)) <|
  mm_at_cons (ok_iconst (n := 0) (by decide +kernel) (by decide)) <|
  mm_at_cons (ok_iconst (n := 0) (by decide +kernel) (by decide)) <|
  mm_at_cons (ok_istore_n (k := 2) (by decide +kernel) rfl) <|
  mm_at_cons (ok_iload_n (k := 2) (by decide +kernel) rfl) <|
  mm_at_cons (ok_iload_n (k := 1) (by decide +kernel) rfl) <|
  mm_at_cons (ok_icmp_ge (off := 13) (by decide +kernel) (by decide)) <|
  mm_at_cons (ok_aload_n (k := 0) (by decide +kernel) rfl) <|
  mm_at_cons (ok_callV (z := 59) (ci := 5) (idx := 114) rfl hS ⟨rfl, rfl⟩ (mm_rmok (by decide)) rfl ct_good ww_235 (mm_4 ww_236 ww_237 sel_59 ww_172) (by decide +kernel) (by decide +kernel)) <|
  mm_at_cons (ok_iinc (n := 1) (by decide +kernel) (by decide)) <|
  mm_at_cons (ok_goto (off := (-12)) (by decide +kernel) (by decide)) <|
  mm_at_cons (ok_aload_n (k := 0) (by decide +kernel) rfl) <|
  mm_at_cons (ok_getr (ck := 13) (off := 3) (ci := 5) (k := 8) (idx := 16) rfl ct_in5 (by decide) ww_174 rfl rfl (by decide +kernel)) <|
  mm_at_cons (ok_iconst (n := 0) (by decide +kernel) (by decide)) <|
  mm_at_cons (ok_iald (t9 := 0) (by decide) rfl rfl (by decide +kernel)) <|
  mm_at_nil
theorem ro_Mo_run : mm_RtOk prog_7_method_29_code (some .int) rt_Mo_run :=
  mm_rt_cons (Or.inr (Or.inl ⟨rfl, rfl, by decide +kernel⟩)) <|
  mm_rt_cons (Or.inr (Or.inl ⟨rfl, rfl, by decide +kernel⟩)) <|
  mm_rt_nil
end
end
section
section
variable {D : va_G} {ad : Nat → Nat} {cA : Nat → ClassId} {l : Launch} {d : Nat} {S : mm_S}
set_option maxRecDepth 100000 in
set_option maxHeartbeats 4000000 in
theorem po_Mo_at (hS : mm_Sound ct_GW ct_NW D ct_cl (ct_tys cA) ad cA ct_K ct_kd ct_N l ct_T (mm_rm d) S) : ∀ pc f, mm_at pg_Mo_at pc = some f → mm_Ok ct_GW ct_NW D ct_cl (ct_tys cA) ad cA ct_K ct_kd ct_N l (mm_rm (d + 1)) "CraneTurnsModel" prog_7_method_30_code 5 S pc f :=
  mm_at_cons (ok_aload_n (k := 0) (by decide +kernel) rfl) <|
  mm_at_cons (ok_aload_n (k := 0) (by decide +kernel) rfl) <|
  mm_at_cons (ok_iload_n (k := 1) (by decide +kernel) rfl) <|
  mm_at_cons (ok_callV (z := 36) (ci := 5) (idx := 59) rfl hS ⟨rfl, rfl⟩ (mm_rmok (by decide)) rfl ct_good ww_185 (mm_4 ww_186 ww_187 sel_36 ww_172) (by decide +kernel) (by decide +kernel)) <|
  mm_at_cons (ok_if_eq (off := 13) (by decide +kernel) (by decide)) <|
  mm_at_cons (ok_iload_n (k := 2) (by decide +kernel) rfl) <|
  mm_at_cons (ok_iconst (n := 0) (by decide +kernel) (by decide)) <|
  mm_at_cons (ok_bipush (n := 7) (by decide +kernel) (by decide)) <|
  mm_at_cons (ok_callS (z := 35) (idx := 35) hS ⟨rfl, rfl⟩ (mm_rmok (by decide)) ct_good ww_169 (mm_3 ww_170 ww_171 ww_172) (by decide +kernel) (by decide +kernel)) <|
  mm_at_cons (ok_if_ne (off := 7) (by decide +kernel) (by decide)) <|
  mm_at_cons (ok_iconst (n := 1) (by decide +kernel) (by decide)) <|
  mm_at_cons (ok_goto (off := 4) (by decide +kernel) (by decide)) <|
  mm_at_cons (ok_iconst (n := 0) (by decide +kernel) (by decide)) <|
  mm_at_cons (ok_iconst (n := 0) (by decide +kernel) (by decide)) <|
  mm_at_cons (ok_iconst (n := 0) (by decide +kernel) (by decide)) <|
  mm_at_cons (ok_iconst (n := 0) (by decide +kernel) (by decide)) <|
  mm_at_cons (ok_callV (z := 34) (ci := 5) (idx := 42) rfl hS ⟨rfl, rfl⟩ (mm_rmok (by decide)) rfl ct_good ww_175 (mm_4 ww_176 ww_177 sel_34 ww_172) (by decide +kernel) (by decide +kernel)) <|
  mm_at_cons (ok_if_eq (off := 5) (by decide +kernel) (by decide)) <|
  mm_at_cons (ok_iconst (n := 0) (by decide +kernel) (by decide)) <|
  mm_at_cons (ok_iload_n (k := 2) (by decide +kernel) rfl) <|
  mm_at_cons (ok_iconst (n := 2) (by decide +kernel) (by decide)) <|
  mm_at_cons (ok_icmp_ge (off := 23) (by decide +kernel) (by decide)) <|
  mm_at_cons (ok_iload_n (k := 2) (by decide +kernel) rfl) <|
  mm_at_cons (ok_if_ne (off := 12) (by decide +kernel) (by decide)) <|
  mm_at_cons (ok_aload_n (k := 0) (by decide +kernel) rfl) <|
  mm_at_cons (ok_iload_n (k := 1) (by decide +kernel) rfl) <|
  mm_at_cons (ok_iconst (n := 0) (by decide +kernel) (by decide)) <|
  mm_at_cons (ok_callV (z := 38) (ci := 5) (idx := 63) rfl hS ⟨rfl, rfl⟩ (mm_rmok (by decide)) rfl ct_good ww_188 (mm_4 ww_189 ww_190 sel_38 ww_172) (by decide +kernel) (by decide +kernel)) <|
  mm_at_cons (ok_goto (off := 9) (by decide +kernel) (by decide)) <|
  mm_at_cons (ok_aload_n (k := 0) (by decide +kernel) rfl) <|
  mm_at_cons (ok_iload_n (k := 1) (by decide +kernel) rfl) <|
  mm_at_cons (ok_iconst (n := 2) (by decide +kernel) (by decide)) <|
  mm_at_cons (ok_callV (z := 38) (ci := 5) (idx := 63) rfl hS ⟨rfl, rfl⟩ (mm_rmok (by decide)) rfl ct_good ww_188 (mm_4 ww_189 ww_190 sel_38 ww_172) (by decide +kernel) (by decide +kernel)) <|
  mm_at_cons (ok_iload_n (k := 2) (by decide +kernel) rfl) <|
  mm_at_cons (ok_bipush (n := 7) (by decide +kernel) (by decide)) <|
  mm_at_cons (ok_icmp_ne (off := 10) (by decide +kernel) (by decide)) <|
  mm_at_cons (ok_aload_n (k := 0) (by decide +kernel) rfl) <|
  mm_at_cons (ok_iload_n (k := 1) (by decide +kernel) rfl) <|
  mm_at_cons (ok_iconst (n := 1) (by decide +kernel) (by decide)) <|
  mm_at_cons (ok_callV (z := 38) (ci := 5) (idx := 63) rfl hS ⟨rfl, rfl⟩ (mm_rmok (by decide)) rfl ct_good ww_188 (mm_4 ww_189 ww_190 sel_38 ww_172) (by decide +kernel) (by decide +kernel)) <|
  mm_at_cons (ok_iload_n (k := 2) (by decide +kernel) rfl) <|
  mm_at_cons (ok_iconst (n := 2) (by decide +kernel) (by decide)) <|
  mm_at_cons (ok_icmp_le (off := 14) (by decide +kernel) (by decide)) <|
  mm_at_cons (ok_aload_n (k := 0) (by decide +kernel) rfl) <|
  mm_at_cons (ok_iload_n (k := 1) (by decide +kernel) rfl) <|
  mm_at_cons (ok_iconst (n := 4) (by decide +kernel) (by decide)) <|
  mm_at_cons (ok_iload_n (k := 2) (by decide +kernel) rfl) <|
  mm_at_cons (ok_iadd (by decide +kernel)) <|
  mm_at_cons (ok_iconst (n := 3) (by decide +kernel) (by decide)) <|
  mm_at_cons (ok_isub (by decide +kernel)) <|
  mm_at_cons (ok_callV (z := 38) (ci := 5) (idx := 63) rfl hS ⟨rfl, rfl⟩ (mm_rmok (by decide)) rfl ct_good ww_188 (mm_4 ww_189 ww_190 sel_38 ww_172) (by decide +kernel) (by decide +kernel)) <|
  mm_at_cons (ok_iconst (n := 0) (by decide +kernel) (by decide)) <|
  mm_at_cons (ok_istore_n (k := 3) (by decide +kernel) rfl) <|
  mm_at_cons (ok_iconst (n := 0) (by decide +kernel) (by decide)) <|
  mm_at_cons (ok_istore (by decide +kernel)) <|
  mm_at_cons (ok_iload (by decide +kernel)) <|
  mm_at_cons (ok_aload_n (k := 0) (by decide +kernel) rfl) <|
  mm_at_cons (ok_getf (ci := 5) (k := 5) (idx := 39) rfl ct_in5 (by decide) ww_173 rfl rfl (by decide +kernel)) <|
  mm_at_cons (ok_icmp_ge (off := 39) (by decide +kernel) (by decide)) <|
  mm_at_cons (ok_iload_n (k := 3) (by decide +kernel) rfl) <|
  mm_at_cons (ok_aload_n (k := 0) (by decide +kernel) rfl) <|
  mm_at_cons (ok_iload (by decide +kernel)) <|
  mm_at_cons (ok_iconst (n := 3) (by decide +kernel) (by decide)) <|
  mm_at_cons (ok_callV (z := 40) (ci := 5) (idx := 70) rfl hS ⟨rfl, rfl⟩ (mm_rmok (by decide)) rfl ct_good ww_195 (mm_4 ww_196 ww_197 sel_40 ww_172) (by decide +kernel) (by decide +kernel)) <|
  mm_at_cons (ok_iconst (n := 1) (by decide +kernel) (by decide)) <|
  mm_at_cons (ok_icmp_ne (off := 18) (by decide +kernel) (by decide)) <|
  mm_at_cons (ok_aload_n (k := 0) (by decide +kernel) rfl) <|
  mm_at_cons (ok_iload (by decide +kernel)) <|
  mm_at_cons (ok_iconst (n := 4) (by decide +kernel) (by decide)) <|
  mm_at_cons (ok_callV (z := 40) (ci := 5) (idx := 70) rfl hS ⟨rfl, rfl⟩ (mm_rmok (by decide)) rfl ct_good ww_195 (mm_4 ww_196 ww_197 sel_40 ww_172) (by decide +kernel) (by decide +kernel)) <|
  mm_at_cons (ok_iload_n (k := 1) (by decide +kernel) rfl) <|
  mm_at_cons (ok_icmp_ne (off := 7) (by decide +kernel) (by decide)) <|
  mm_at_cons (ok_iconst (n := 1) (by decide +kernel) (by decide)) <|
  mm_at_cons (ok_goto (off := 4) (by decide +kernel) (by decide)) <|
  mm_at_cons (ok_iconst (n := 0) (by decide +kernel) (by decide)) <|
  mm_at_cons (ok_iadd (by decide +kernel)) <|
  mm_at_cons (ok_istore_n (k := 3) (by decide +kernel) rfl) <|
  mm_at_cons (ok_iinc (n := 1) (by decide +kernel) (by decide)) <|
  mm_at_cons (ok_goto (off := (-42)) (by decide +kernel) (by decide)) <|
  mm_at_cons (ok_iload_n (k := 3) (by decide +kernel) rfl) <|
  mm_at_nil
theorem ro_Mo_at : mm_RtOk prog_7_method_30_code (some .int) rt_Mo_at :=
  mm_rt_cons (Or.inr (Or.inl ⟨rfl, rfl, by decide +kernel⟩)) <|
  mm_rt_cons (Or.inr (Or.inl ⟨rfl, rfl, by decide +kernel⟩)) <|
  mm_rt_cons (Or.inr (Or.inl ⟨rfl, rfl, by decide +kernel⟩)) <|
  mm_rt_cons (Or.inr (Or.inl ⟨rfl, rfl, by decide +kernel⟩)) <|
  mm_rt_cons (Or.inr (Or.inl ⟨rfl, rfl, by decide +kernel⟩)) <|
  mm_rt_nil
set_option maxRecDepth 100000 in
set_option maxHeartbeats 4000000 in
theorem po_Mo_state (hS : mm_Sound ct_GW ct_NW D ct_cl (ct_tys cA) ad cA ct_K ct_kd ct_N l ct_T (mm_rm d) S) : ∀ pc f, mm_at pg_Mo_state pc = some f → mm_Ok ct_GW ct_NW D ct_cl (ct_tys cA) ad cA ct_K ct_kd ct_N l (mm_rm (d + 1)) "CraneTurnsModel" prog_7_method_31_code 3 S pc f :=
  mm_at_cons (ok_aload_n (k := 0) (by decide +kernel) rfl) <|
  mm_at_cons (ok_aload_n (k := 0) (by decide +kernel) rfl) <|
  mm_at_cons (ok_iload_n (k := 1) (by decide +kernel) rfl) <|
  mm_at_cons (ok_callV (z := 37) (ci := 5) (idx := 73) rfl hS ⟨rfl, rfl⟩ (mm_rmok (by decide)) rfl ct_good ww_198 (mm_4 ww_199 ww_200 sel_37 ww_172) (by decide +kernel) (by decide +kernel)) <|
  mm_at_cons (ok_if_eq (off := 12) (by decide +kernel) (by decide)) <|
  mm_at_cons (ok_iload_n (k := 2) (by decide +kernel) rfl) <|
  mm_at_cons (ok_iconst (n := 0) (by decide +kernel) (by decide)) <|
  mm_at_cons (ok_iconst (n := 2) (by decide +kernel) (by decide)) <|
  mm_at_cons (ok_callS (z := 35) (idx := 35) hS ⟨rfl, rfl⟩ (mm_rmok (by decide)) ct_good ww_169 (mm_3 ww_170 ww_171 ww_172) (by decide +kernel) (by decide +kernel)) <|
  mm_at_cons (ok_if_ne (off := 7) (by decide +kernel) (by decide)) <|
  mm_at_cons (ok_iconst (n := 1) (by decide +kernel) (by decide)) <|
  mm_at_cons (ok_goto (off := 4) (by decide +kernel) (by decide)) <|
  mm_at_cons (ok_iconst (n := 0) (by decide +kernel) (by decide)) <|
  mm_at_cons (ok_iconst (n := 0) (by decide +kernel) (by decide)) <|
  mm_at_cons (ok_iconst (n := 0) (by decide +kernel) (by decide)) <|
  mm_at_cons (ok_iconst (n := 0) (by decide +kernel) (by decide)) <|
  mm_at_cons (ok_callV (z := 34) (ci := 5) (idx := 42) rfl hS ⟨rfl, rfl⟩ (mm_rmok (by decide)) rfl ct_good ww_175 (mm_4 ww_176 ww_177 sel_34 ww_172) (by decide +kernel) (by decide +kernel)) <|
  mm_at_cons (ok_if_eq (off := 5) (by decide +kernel) (by decide)) <|
  mm_at_cons (ok_iconst (n := 0) (by decide +kernel) (by decide)) <|
  mm_at_cons (ok_iload_n (k := 2) (by decide +kernel) rfl) <|
  mm_at_cons (ok_if_ne (off := 12) (by decide +kernel) (by decide)) <|
  mm_at_cons (ok_aload_n (k := 0) (by decide +kernel) rfl) <|
  mm_at_cons (ok_iload_n (k := 1) (by decide +kernel) rfl) <|
  mm_at_cons (ok_iconst (n := 3) (by decide +kernel) (by decide)) <|
  mm_at_cons (ok_callV (z := 40) (ci := 5) (idx := 70) rfl hS ⟨rfl, rfl⟩ (mm_rmok (by decide)) rfl ct_good ww_195 (mm_4 ww_196 ww_197 sel_40 ww_172) (by decide +kernel) (by decide +kernel)) <|
  mm_at_cons (ok_goto (off := 23) (by decide +kernel) (by decide)) <|
  mm_at_cons (ok_iload_n (k := 2) (by decide +kernel) rfl) <|
  mm_at_cons (ok_iconst (n := 1) (by decide +kernel) (by decide)) <|
  mm_at_cons (ok_icmp_ne (off := 12) (by decide +kernel) (by decide)) <|
  mm_at_cons (ok_aload_n (k := 0) (by decide +kernel) rfl) <|
  mm_at_cons (ok_iload_n (k := 1) (by decide +kernel) rfl) <|
  mm_at_cons (ok_iconst (n := 4) (by decide +kernel) (by decide)) <|
  mm_at_cons (ok_callV (z := 40) (ci := 5) (idx := 70) rfl hS ⟨rfl, rfl⟩ (mm_rmok (by decide)) rfl ct_good ww_195 (mm_4 ww_196 ww_197 sel_40 ww_172) (by decide +kernel) (by decide +kernel)) <|
  mm_at_cons (ok_goto (off := 9) (by decide +kernel) (by decide)) <|
  mm_at_cons (ok_aload_n (k := 0) (by decide +kernel) rfl) <|
  mm_at_cons (ok_iload_n (k := 1) (by decide +kernel) rfl) <|
  mm_at_cons (ok_iconst (n := 5) (by decide +kernel) (by decide)) <|
  mm_at_cons (ok_callV (z := 40) (ci := 5) (idx := 70) rfl hS ⟨rfl, rfl⟩ (mm_rmok (by decide)) rfl ct_good ww_195 (mm_4 ww_196 ww_197 sel_40 ww_172) (by decide +kernel) (by decide +kernel)) <|
  mm_at_nil
theorem ro_Mo_state : mm_RtOk prog_7_method_31_code (some .int) rt_Mo_state :=
  mm_rt_cons (Or.inr (Or.inl ⟨rfl, rfl, by decide +kernel⟩)) <|
  mm_rt_cons (Or.inr (Or.inl ⟨rfl, rfl, by decide +kernel⟩)) <|
  mm_rt_nil
set_option maxRecDepth 100000 in
set_option maxHeartbeats 4000000 in
theorem po_Mo_near (hS : mm_Sound ct_GW ct_NW D ct_cl (ct_tys cA) ad cA ct_K ct_kd ct_N l ct_T (mm_rm d) S) : ∀ pc f, mm_at pg_Mo_near pc = some f → mm_Ok ct_GW ct_NW D ct_cl (ct_tys cA) ad cA ct_K ct_kd ct_N l (mm_rm (d + 1)) "CraneTurnsModel" prog_7_method_32_code 1 S pc f :=
  mm_at_cons (ok_aload_n (k := 0) (by decide +kernel) rfl) <|
  mm_at_cons (ok_iconst (n := 0) (by decide +kernel) (by decide)) <|
  mm_at_cons (ok_putf (ci := 5) (k := 0) (idx := 28) rfl ct_in5 (by decide) ww_167 rfl ct_ty5 ct_tyok5 ct_nm5 rfl (by decide +kernel) rfl (by decide +kernel)) <|
  mm_at_cons (ok_aload_n (k := 0) (by decide +kernel) rfl) <|
  mm_at_cons (ok_getr (ck := 13) (off := 3) (ci := 5) (k := 8) (idx := 16) rfl ct_in5 (by decide) ww_174 rfl rfl (by decide +kernel)) <|
  mm_at_cons (ok_iconst (n := 1) (by decide +kernel) (by decide)) <|
  mm_at_cons (ok_iald (t9 := 0) (by decide) rfl rfl (by decide +kernel)) <|
  mm_at_nil
theorem ro_Mo_near : mm_RtOk prog_7_method_32_code (some .int) rt_Mo_near :=
  mm_rt_cons (Or.inr (Or.inl ⟨rfl, rfl, by decide +kernel⟩)) <|
  mm_rt_nil
set_option maxRecDepth 100000 in
set_option maxHeartbeats 4000000 in
theorem po_Mo_isAllDone (hS : mm_Sound ct_GW ct_NW D ct_cl (ct_tys cA) ad cA ct_K ct_kd ct_N l ct_T (mm_rm d) S) : ∀ pc f, mm_at pg_Mo_isAllDone pc = some f → mm_Ok ct_GW ct_NW D ct_cl (ct_tys cA) ad cA ct_K ct_kd ct_N l (mm_rm (d + 1)) "CraneTurnsModel" prog_7_method_33_code 3 S pc f :=
  mm_at_cons (ok_iconst (n := 1) (by decide +kernel) (by decide)) <|
  mm_at_cons (ok_istore_n (k := 1) (by decide +kernel) rfl) <|
  mm_at_cons (ok_iconst (n := 0) (by decide +kernel) (by decide)) <|
  mm_at_cons (ok_istore_n (k := 2) (by decide +kernel) rfl) <|
  mm_at_cons (ok_iload_n (k := 2) (by decide +kernel) rfl) <|
  mm_at_cons (ok_aload_n (k := 0) (by decide +kernel) rfl) <|
  mm_at_cons (ok_getf (ci := 5) (k := 5) (idx := 39) rfl ct_in5 (by decide) ww_173 rfl rfl (by decide +kernel)) <|
  mm_at_cons (ok_icmp_ge (off := 29) (by decide +kernel) (by decide)) <|
  mm_at_cons (ok_iload_n (k := 1) (by decide +kernel) rfl) <|
  mm_at_cons (ok_if_eq (off := 17) (by decide +kernel) (by decide)) <|
  mm_at_cons (ok_aload_n (k := 0) (by decide +kernel) rfl) <|
  mm_at_cons (ok_iload_n (k := 2) (by decide +kernel) rfl) <|
  mm_at_cons (ok_iconst (n := 3) (by decide +kernel) (by decide)) <|
  mm_at_cons (ok_callV (z := 40) (ci := 5) (idx := 70) rfl hS ⟨rfl, rfl⟩ (mm_rmok (by decide)) rfl ct_good ww_195 (mm_4 ww_196 ww_197 sel_40 ww_172) (by decide +kernel) (by decide +kernel)) <|
  mm_at_cons (ok_iconst (n := 3) (by decide +kernel) (by decide)) <|
  mm_at_cons (ok_icmp_ne (off := 7) (by decide +kernel) (by decide)) <|
  mm_at_cons (ok_iconst (n := 1) (by decide +kernel) (by decide)) <|
  mm_at_cons (ok_goto (off := 4) (by decide +kernel) (by decide)) <|
  mm_at_cons (ok_iconst (n := 0) (by decide +kernel) (by decide)) <|
  mm_at_cons (ok_istore_n (k := 1) (by decide +kernel) rfl) <|
  mm_at_cons (ok_iinc (n := 1) (by decide +kernel) (by decide)) <|
  mm_at_cons (ok_goto (off := (-31)) (by decide +kernel) (by decide)) <|
  mm_at_cons (ok_iload_n (k := 1) (by decide +kernel) rfl) <|
  mm_at_nil
theorem ro_Mo_isAllDone : mm_RtOk prog_7_method_33_code (some .boolean) rt_Mo_isAllDone :=
  mm_rt_cons (Or.inr (Or.inr ⟨rfl, rfl, by decide +kernel⟩)) <|
  mm_rt_nil
set_option maxRecDepth 100000 in
set_option maxHeartbeats 4000000 in
theorem po_Mo_secondsOf (hS : mm_Sound ct_GW ct_NW D ct_cl (ct_tys cA) ad cA ct_K ct_kd ct_N l ct_T (mm_rm d) S) : ∀ pc f, mm_at pg_Mo_secondsOf pc = some f → mm_Ok ct_GW ct_NW D ct_cl (ct_tys cA) ad cA ct_K ct_kd ct_N l (mm_rm (d + 1)) "CraneTurnsModel" prog_7_method_34_code 6 S pc f :=
  mm_at_cons (ok_iconst (n := 0) (by decide +kernel) (by decide)) <|
  mm_at_cons (ok_istore_n (k := 3) (by decide +kernel) rfl) <|
  mm_at_cons (ok_iload_n (k := 3) (by decide +kernel) rfl) <|
  mm_at_cons (ok_bipush (n := 110) (by decide +kernel) (by decide)) <|
  mm_at_cons (ok_icmp_ge (off := 21) (by decide +kernel) (by decide)) <|
  mm_at_cons (ok_aload_n (k := 0) (by decide +kernel) rfl) <|
  mm_at_cons (ok_getr (ck := 13) (off := 4) (ci := 5) (k := 9) (idx := 19) rfl ct_in5 (by decide) ww_238 rfl rfl (by decide +kernel)) <|
  mm_at_cons (ok_iload_n (k := 3) (by decide +kernel) rfl) <|
  mm_at_cons (ok_aload_n (k := 0) (by decide +kernel) rfl) <|
  mm_at_cons (ok_getr (ck := 13) (off := 3) (ci := 5) (k := 8) (idx := 16) rfl ct_in5 (by decide) ww_174 rfl rfl (by decide +kernel)) <|
  mm_at_cons (ok_iload_n (k := 3) (by decide +kernel) rfl) <|
  mm_at_cons (ok_iald (t9 := 0) (by decide) rfl rfl (by decide +kernel)) <|
  mm_at_cons (ok_iast (t9 := 0) (by decide) rfl rfl (by decide +kernel)) <|
  mm_at_cons (ok_iinc (n := 1) (by decide +kernel) (by decide)) <|
  mm_at_cons (ok_goto (off := (-21)) (by decide +kernel) (by decide)) <|
  mm_at_cons (ok_iconst (n := 0) (by decide +kernel) (by decide)) <|
  mm_at_cons (ok_istore_n (k := 3) (by decide +kernel) rfl) <|
  mm_at_cons (ok_iload_n (k := 3) (by decide +kernel) rfl) <|
  mm_at_cons (ok_iload_n (k := 1) (by decide +kernel) rfl) <|
  mm_at_cons (ok_icmp_ge (off := 31) (by decide +kernel) (by decide)) <|
  mm_at_cons (ok_aload_n (k := 0) (by decide +kernel) rfl) <|
  mm_at_cons (ok_aload_n (k := 0) (by decide +kernel) rfl) <|
  mm_at_cons (ok_getr (ck := 14) (off := 5) (ci := 5) (k := 10) (idx := 22) rfl ct_in5 (by decide) ww_239 rfl rfl (by decide +kernel)) <|
  mm_at_cons (ok_iload_n (k := 3) (by decide +kernel) rfl) <|
  mm_at_cons (ok_iald (t9 := 0) (by decide) rfl rfl (by decide +kernel)) <|
  mm_at_cons (ok_bipush (n := 10) (by decide +kernel) (by decide)) <|
  mm_at_cons (ok_idiv (by decide +kernel)) <|
  mm_at_cons (ok_aload_n (k := 0) (by decide +kernel) rfl) <|
  mm_at_cons (ok_getr (ck := 14) (off := 5) (ci := 5) (k := 10) (idx := 22) rfl ct_in5 (by decide) ww_239 rfl rfl (by decide +kernel)) <|
  mm_at_cons (ok_iload_n (k := 3) (by decide +kernel) rfl) <|
  mm_at_cons (ok_iald (t9 := 0) (by decide) rfl rfl (by decide +kernel)) <|
  mm_at_cons (ok_bipush (n := 10) (by decide +kernel) (by decide)) <|
  mm_at_cons (ok_irem (by decide +kernel)) <|
  mm_at_cons (ok_callV (z := 46) (ci := 5) (idx := 80) rfl hS ⟨rfl, rfl⟩ (mm_rmok (by decide)) rfl ct_good ww_204 (mm_4 ww_205 ww_206 sel_46 ww_172) (by decide +kernel) (by decide +kernel)) <|
  mm_at_cons (ok_iinc (n := 1) (by decide +kernel) (by decide)) <|
  mm_at_cons (ok_goto (off := (-30)) (by decide +kernel) (by decide)) <|
  mm_at_cons (ok_iconst (n := 0) (by decide +kernel) (by decide)) <|
  mm_at_cons (ok_istore_n (k := 3) (by decide +kernel) rfl) <|
  mm_at_cons (ok_iload_n (k := 3) (by decide +kernel) rfl) <|
  mm_at_cons (ok_iload_n (k := 2) (by decide +kernel) rfl) <|
  mm_at_cons (ok_icmp_ge (off := 20) (by decide +kernel) (by decide)) <|
  mm_at_cons (ok_aload_n (k := 0) (by decide +kernel) rfl) <|
  mm_at_cons (ok_callV (z := 64) (ci := 5) (idx := 117) rfl hS ⟨rfl, rfl⟩ (mm_rmok (by decide)) rfl ct_good ww_240 (mm_4 ww_241 ww_242 sel_64 ww_172) (by decide +kernel) (by decide +kernel)) <|
  mm_at_cons (ok_if_ne (off := 13) (by decide +kernel) (by decide)) <|
  mm_at_cons (ok_aload_n (k := 0) (by decide +kernel) rfl) <|
  mm_at_cons (ok_callV (z := 59) (ci := 5) (idx := 114) rfl hS ⟨rfl, rfl⟩ (mm_rmok (by decide)) rfl ct_good ww_235 (mm_4 ww_236 ww_237 sel_59 ww_172) (by decide +kernel) (by decide +kernel)) <|
  mm_at_cons (ok_iinc (n := 1) (by decide +kernel) (by decide)) <|
  mm_at_cons (ok_goto (off := (-19)) (by decide +kernel) (by decide)) <|
  mm_at_cons (ok_aload_n (k := 0) (by decide +kernel) rfl) <|
  mm_at_cons (ok_callV (z := 64) (ci := 5) (idx := 117) rfl hS ⟨rfl, rfl⟩ (mm_rmok (by decide)) rfl ct_good ww_240 (mm_4 ww_241 ww_242 sel_64 ww_172) (by decide +kernel) (by decide +kernel)) <|
  mm_at_cons (ok_istore (by decide +kernel)) <|
  mm_at_cons (ok_iconst (n := 0) (by decide +kernel) (by decide)) <|
  mm_at_cons (ok_istore (by decide +kernel)) <|
  mm_at_cons (ok_iload (by decide +kernel)) <|
  mm_at_cons (ok_bipush (n := 110) (by decide +kernel) (by decide)) <|
  mm_at_cons (ok_icmp_ge (off := 23) (by decide +kernel) (by decide)) <|
  mm_at_cons (ok_aload_n (k := 0) (by decide +kernel) rfl) <|
  mm_at_cons (ok_getr (ck := 13) (off := 3) (ci := 5) (k := 8) (idx := 16) rfl ct_in5 (by decide) ww_174 rfl rfl (by decide +kernel)) <|
  mm_at_cons (ok_iload (by decide +kernel)) <|
  mm_at_cons (ok_aload_n (k := 0) (by decide +kernel) rfl) <|
  mm_at_cons (ok_getr (ck := 13) (off := 4) (ci := 5) (k := 9) (idx := 19) rfl ct_in5 (by decide) ww_238 rfl rfl (by decide +kernel)) <|
  mm_at_cons (ok_iload (by decide +kernel)) <|
  mm_at_cons (ok_iald (t9 := 0) (by decide) rfl rfl (by decide +kernel)) <|
  mm_at_cons (ok_iast (t9 := 0) (by decide) rfl rfl (by decide +kernel)) <|
  mm_at_cons (ok_iinc (n := 1) (by decide +kernel) (by decide)) <|
  mm_at_cons (ok_goto (off := (-24)) (by decide +kernel) (by decide)) <|
  mm_at_cons (ok_iload (by decide +kernel)) <|
  mm_at_cons (ok_if_eq (off := 7) (by decide +kernel) (by decide)) <|
  mm_at_cons (ok_iload_n (k := 3) (by decide +kernel) rfl) <|
  mm_at_cons (ok_goto (off := 4) (by decide +kernel) (by decide)) <|
  mm_at_cons (ok_iconst (n := (-1)) (by decide +kernel) (by decide)) <|
  mm_at_nil
theorem ro_Mo_secondsOf : mm_RtOk prog_7_method_34_code (some .int) rt_Mo_secondsOf :=
  mm_rt_cons (Or.inr (Or.inl ⟨rfl, rfl, by decide +kernel⟩)) <|
  mm_rt_nil
set_option maxRecDepth 100000 in
set_option maxHeartbeats 4000000 in
theorem po_Mo_isInWay (hS : mm_Sound ct_GW ct_NW D ct_cl (ct_tys cA) ad cA ct_K ct_kd ct_N l ct_T (mm_rm d) S) : ∀ pc f, mm_at pg_Mo_isInWay pc = some f → mm_Ok ct_GW ct_NW D ct_cl (ct_tys cA) ad cA ct_K ct_kd ct_N l (mm_rm (d + 1)) "CraneTurnsModel" prog_7_method_35_code 4 S pc f :=
  mm_at_cons (ok_iconst (n := 0) (by decide +kernel) (by decide)) <|
  mm_at_cons (ok_istore_n (k := 2) (by decide +kernel) rfl) <|
  mm_at_cons (ok_iconst (n := 0) (by decide +kernel) (by decide)) <|
  mm_at_cons (ok_istore_n (k := 3) (by decide +kernel) rfl) <|
  mm_at_cons (ok_iload_n (k := 3) (by decide +kernel) rfl) <|
  mm_at_cons (ok_iload_n (k := 1) (by decide +kernel) rfl) <|
  mm_at_cons (ok_icmp_ge (off := 40) (by decide +kernel) (by decide)) <|
  mm_at_cons (ok_iload_n (k := 2) (by decide +kernel) rfl) <|
  mm_at_cons (ok_if_ne (off := 24) (by decide +kernel) (by decide)) <|
  mm_at_cons (ok_aload_n (k := 0) (by decide +kernel) rfl) <|
  mm_at_cons (ok_getr (ck := 14) (off := 5) (ci := 5) (k := 10) (idx := 22) rfl ct_in5 (by decide) ww_239 rfl rfl (by decide +kernel)) <|
  mm_at_cons (ok_iload_n (k := 3) (by decide +kernel) rfl) <|
  mm_at_cons (ok_iald (t9 := 0) (by decide) rfl rfl (by decide +kernel)) <|
  mm_at_cons (ok_bipush (n := 10) (by decide +kernel) (by decide)) <|
  mm_at_cons (ok_idiv (by decide +kernel)) <|
  mm_at_cons (ok_aload_n (k := 0) (by decide +kernel) rfl) <|
  mm_at_cons (ok_getr (ck := 14) (off := 5) (ci := 5) (k := 10) (idx := 22) rfl ct_in5 (by decide) ww_239 rfl rfl (by decide +kernel)) <|
  mm_at_cons (ok_iload_n (k := 1) (by decide +kernel) rfl) <|
  mm_at_cons (ok_iald (t9 := 0) (by decide) rfl rfl (by decide +kernel)) <|
  mm_at_cons (ok_bipush (n := 10) (by decide +kernel) (by decide)) <|
  mm_at_cons (ok_idiv (by decide +kernel)) <|
  mm_at_cons (ok_icmp_ne (off := 7) (by decide +kernel) (by decide)) <|
  mm_at_cons (ok_iconst (n := 1) (by decide +kernel) (by decide)) <|
  mm_at_cons (ok_goto (off := 4) (by decide +kernel) (by decide)) <|
  mm_at_cons (ok_iconst (n := 0) (by decide +kernel) (by decide)) <|
  mm_at_cons (ok_istore_n (k := 2) (by decide +kernel) rfl) <|
  mm_at_cons (ok_iinc (n := 1) (by decide +kernel) (by decide)) <|
  mm_at_cons (ok_goto (off := (-39)) (by decide +kernel) (by decide)) <|
  mm_at_cons (ok_iload_n (k := 2) (by decide +kernel) rfl) <|
  mm_at_nil
theorem ro_Mo_isInWay : mm_RtOk prog_7_method_35_code (some .boolean) rt_Mo_isInWay :=
  mm_rt_cons (Or.inr (Or.inr ⟨rfl, rfl, by decide +kernel⟩)) <|
  mm_rt_nil
set_option maxRecDepth 100000 in
set_option maxHeartbeats 4000000 in
theorem po_Mo_may (hS : mm_Sound ct_GW ct_NW D ct_cl (ct_tys cA) ad cA ct_K ct_kd ct_N l ct_T (mm_rm d) S) : ∀ pc f, mm_at pg_Mo_may pc = some f → mm_Ok ct_GW ct_NW D ct_cl (ct_tys cA) ad cA ct_K ct_kd ct_N l (mm_rm (d + 1)) "CraneTurnsModel" prog_7_method_36_code 4 S pc f :=
  mm_at_cons (ok_aload_n (k := 0) (by decide +kernel) rfl) <|
  mm_at_cons (ok_getr (ck := 14) (off := 5) (ci := 5) (k := 10) (idx := 22) rfl ct_in5 (by decide) ww_239 rfl rfl (by decide +kernel)) <|
  mm_at_cons (ok_iload_n (k := 1) (by decide +kernel) rfl) <|
  mm_at_cons (ok_iald (t9 := 0) (by decide) rfl rfl (by decide +kernel)) <|
  mm_at_cons (ok_bipush (n := 10) (by decide +kernel) (by decide)) <|
  mm_at_cons (ok_idiv (by decide +kernel)) <|
  mm_at_cons (ok_istore_n (k := 2) (by decide +kernel) rfl) <|
  mm_at_cons (ok_aload_n (k := 0) (by decide +kernel) rfl) <|
  mm_at_cons (ok_getr (ck := 14) (off := 5) (ci := 5) (k := 10) (idx := 22) rfl ct_in5 (by decide) ww_239 rfl rfl (by decide +kernel)) <|
  mm_at_cons (ok_iload_n (k := 1) (by decide +kernel) rfl) <|
  mm_at_cons (ok_iald (t9 := 0) (by decide) rfl rfl (by decide +kernel)) <|
  mm_at_cons (ok_bipush (n := 10) (by decide +kernel) (by decide)) <|
  mm_at_cons (ok_irem (by decide +kernel)) <|
  mm_at_cons (ok_istore_n (k := 3) (by decide +kernel) rfl) <|
  mm_at_cons (ok_iload_n (k := 3) (by decide +kernel) rfl) <|
  mm_at_cons (ok_aload_n (k := 0) (by decide +kernel) rfl) <|
  mm_at_cons (ok_getf (ci := 5) (k := 1) (idx := 32) rfl ct_in5 (by decide) ww_168 rfl rfl (by decide +kernel)) <|
  mm_at_cons (ok_icmp_ge (off := 33) (by decide +kernel) (by decide)) <|
  mm_at_cons (ok_aload_n (k := 0) (by decide +kernel) rfl) <|
  mm_at_cons (ok_iload_n (k := 2) (by decide +kernel) rfl) <|
  mm_at_cons (ok_iconst (n := 3) (by decide +kernel) (by decide)) <|
  mm_at_cons (ok_callV (z := 40) (ci := 5) (idx := 70) rfl hS ⟨rfl, rfl⟩ (mm_rmok (by decide)) rfl ct_good ww_195 (mm_4 ww_196 ww_197 sel_40 ww_172) (by decide +kernel) (by decide +kernel)) <|
  mm_at_cons (ok_if_ne (off := 24) (by decide +kernel) (by decide)) <|
  mm_at_cons (ok_aload_n (k := 0) (by decide +kernel) rfl) <|
  mm_at_cons (ok_iload_n (k := 1) (by decide +kernel) rfl) <|
  mm_at_cons (ok_callV (z := 66) (ci := 5) (idx := 121) rfl hS ⟨rfl, rfl⟩ (mm_rmok (by decide)) rfl ct_good ww_243 (mm_4 ww_244 ww_245 sel_66 ww_172) (by decide +kernel) (by decide +kernel)) <|
  mm_at_cons (ok_if_ne (off := 16) (by decide +kernel) (by decide)) <|
  mm_at_cons (ok_aload_n (k := 0) (by decide +kernel) rfl) <|
  mm_at_cons (ok_iload_n (k := 3) (by decide +kernel) rfl) <|
  mm_at_cons (ok_iload_n (k := 2) (by decide +kernel) rfl) <|
  mm_at_cons (ok_callV (z := 45) (ci := 5) (idx := 76) rfl hS ⟨rfl, rfl⟩ (mm_rmok (by decide)) rfl ct_good ww_201 (mm_4 ww_202 ww_203 sel_45 ww_172) (by decide +kernel) (by decide +kernel)) <|
  mm_at_cons (ok_if_eq (off := 7) (by decide +kernel) (by decide)) <|
  mm_at_cons (ok_iconst (n := 1) (by decide +kernel) (by decide)) <|
  mm_at_cons (ok_goto (off := 4) (by decide +kernel) (by decide)) <|
  mm_at_cons (ok_iconst (n := 0) (by decide +kernel) (by decide)) <|
  mm_at_nil
theorem ro_Mo_may : mm_RtOk prog_7_method_36_code (some .boolean) rt_Mo_may :=
  mm_rt_cons (Or.inr (Or.inr ⟨rfl, rfl, by decide +kernel⟩)) <|
  mm_rt_nil
set_option maxRecDepth 100000 in
set_option maxHeartbeats 4000000 in
theorem po_Mo_plan (hS : mm_Sound ct_GW ct_NW D ct_cl (ct_tys cA) ad cA ct_K ct_kd ct_N l ct_T (mm_rm d) S) : ∀ pc f, mm_at pg_Mo_plan pc = some f → mm_Ok ct_GW ct_NW D ct_cl (ct_tys cA) ad cA ct_K ct_kd ct_N l (mm_rm (d + 1)) "CraneTurnsModel" prog_7_method_37_code 7 S pc f :=
  mm_at_cons (ok_iconst (n := 0) (by decide +kernel) (by decide)) <|
  mm_at_cons (ok_istore_n (k := 2) (by decide +kernel) rfl) <|
  mm_at_cons (ok_iconst (n := 0) (by decide +kernel) (by decide)) <|
  mm_at_cons (ok_istore_n (k := 3) (by decide +kernel) rfl) <|
  mm_at_cons (ok_iload_n (k := 3) (by decide +kernel) rfl) <|
  mm_at_cons (ok_aload_n (k := 0) (by decide +kernel) rfl) <|
  mm_at_cons (ok_getf (ci := 5) (k := 5) (idx := 39) rfl ct_in5 (by decide) ww_173 rfl rfl (by decide +kernel)) <|
  mm_at_cons (ok_icmp_ge (off := 26) (by decide +kernel) (by decide)) <|
  mm_at_cons (ok_iload_n (k := 2) (by decide +kernel) rfl) <|
  mm_at_cons (ok_aload_n (k := 0) (by decide +kernel) rfl) <|
  mm_at_cons (ok_iload_n (k := 3) (by decide +kernel) rfl) <|
  mm_at_cons (ok_iconst (n := 3) (by decide +kernel) (by decide)) <|
  mm_at_cons (ok_callV (z := 40) (ci := 5) (idx := 70) rfl hS ⟨rfl, rfl⟩ (mm_rmok (by decide)) rfl ct_good ww_195 (mm_4 ww_196 ww_197 sel_40 ww_172) (by decide +kernel) (by decide +kernel)) <|
  mm_at_cons (ok_if_ne (off := 7) (by decide +kernel) (by decide)) <|
  mm_at_cons (ok_iconst (n := 1) (by decide +kernel) (by decide)) <|
  mm_at_cons (ok_goto (off := 4) (by decide +kernel) (by decide)) <|
  mm_at_cons (ok_iconst (n := 0) (by decide +kernel) (by decide)) <|
  mm_at_cons (ok_iadd (by decide +kernel)) <|
  mm_at_cons (ok_istore_n (k := 2) (by decide +kernel) rfl) <|
  mm_at_cons (ok_iinc (n := 1) (by decide +kernel) (by decide)) <|
  mm_at_cons (ok_goto (off := (-28)) (by decide +kernel) (by decide)) <|
  mm_at_cons (ok_aload_n (k := 0) (by decide +kernel) rfl) <|
  mm_at_cons (ok_aload_n (k := 0) (by decide +kernel) rfl) <|
  mm_at_cons (ok_getf (ci := 5) (k := 1) (idx := 32) rfl ct_in5 (by decide) ww_168 rfl rfl (by decide +kernel)) <|
  mm_at_cons (ok_if_ne (off := 7) (by decide +kernel) (by decide)) <|
  mm_at_cons (ok_iconst (n := 1) (by decide +kernel) (by decide)) <|
  mm_at_cons (ok_goto (off := 4) (by decide +kernel) (by decide)) <|
  mm_at_cons (ok_iconst (n := 0) (by decide +kernel) (by decide)) <|
  mm_at_cons (ok_iload_n (k := 1) (by decide +kernel) rfl) <|
  mm_at_cons (ok_iconst (n := 1) (by decide +kernel) (by decide)) <|
  mm_at_cons (ok_sipush (n := 300) (by decide +kernel) (by decide)) <|
  mm_at_cons (ok_callS (z := 35) (idx := 35) hS ⟨rfl, rfl⟩ (mm_rmok (by decide)) ct_good ww_169 (mm_3 ww_170 ww_171 ww_172) (by decide +kernel) (by decide +kernel)) <|
  mm_at_cons (ok_if_ne (off := 7) (by decide +kernel) (by decide)) <|
  mm_at_cons (ok_iconst (n := 1) (by decide +kernel) (by decide)) <|
  mm_at_cons (ok_goto (off := 4) (by decide +kernel) (by decide)) <|
  mm_at_cons (ok_iconst (n := 0) (by decide +kernel) (by decide)) <|
  mm_at_cons (ok_iload_n (k := 2) (by decide +kernel) rfl) <|
  mm_at_cons (ok_iconst (n := 4) (by decide +kernel) (by decide)) <|
  mm_at_cons (ok_icmp_le (off := 7) (by decide +kernel) (by decide)) <|
  mm_at_cons (ok_iconst (n := 1) (by decide +kernel) (by decide)) <|
  mm_at_cons (ok_goto (off := 4) (by decide +kernel) (by decide)) <|
  mm_at_cons (ok_iconst (n := 0) (by decide +kernel) (by decide)) <|
  mm_at_cons (ok_iconst (n := 0) (by decide +kernel) (by decide)) <|
  mm_at_cons (ok_callV (z := 34) (ci := 5) (idx := 42) rfl hS ⟨rfl, rfl⟩ (mm_rmok (by decide)) rfl ct_good ww_175 (mm_4 ww_176 ww_177 sel_34 ww_172) (by decide +kernel) (by decide +kernel)) <|
  mm_at_cons (ok_if_eq (off := 5) (by decide +kernel) (by decide)) <|
  mm_at_cons (ok_iconst (n := 0) (by decide +kernel) (by decide)) <|
  mm_at_cons (ok_aload_n (k := 0) (by decide +kernel) rfl) <|
  mm_at_cons (ok_iconst (n := 0) (by decide +kernel) (by decide)) <|
  mm_at_cons (ok_putf (ci := 5) (k := 12) (idx := 124) rfl ct_in5 (by decide) ww_246 rfl ct_ty5 ct_tyok5 ct_nm5 rfl (by decide +kernel) rfl (by decide +kernel)) <|
  mm_at_cons (ok_iconst (n := (-1)) (by decide +kernel) (by decide)) <|
  mm_at_cons (ok_istore_n (k := 3) (by decide +kernel) rfl) <|
  mm_at_cons (ok_iconst (n := 0) (by decide +kernel) (by decide)) <|
  mm_at_cons (ok_istore (by decide +kernel)) <|
  mm_at_cons (ok_aload_n (k := 0) (by decide +kernel) rfl) <|
  mm_at_cons (ok_getr (ck := 14) (off := 5) (ci := 5) (k := 10) (idx := 22) rfl ct_in5 (by decide) ww_239 rfl rfl (by decide +kernel)) <|
  mm_at_cons (ok_iconst (n := 0) (by decide +kernel) (by decide)) <|
  mm_at_cons (ok_iconst (n := (-1)) (by decide +kernel) (by decide)) <|
  mm_at_cons (ok_iast (t9 := 0) (by decide) rfl rfl (by decide +kernel)) <|
  mm_at_cons (ok_iload (by decide +kernel)) <|
  mm_at_cons (ok_if_lt (off := 163) (by decide +kernel) (by decide)) <|
  mm_at_cons (ok_iload (by decide +kernel)) <|
  mm_at_cons (ok_iload_n (k := 2) (by decide +kernel) rfl) <|
  mm_at_cons (ok_icmp_ne (off := 69) (by decide +kernel) (by decide)) <|
  mm_at_cons (ok_aload_n (k := 0) (by decide +kernel) rfl) <|
  mm_at_cons (ok_iload_n (k := 2) (by decide +kernel) rfl) <|
  mm_at_cons (ok_iload_n (k := 1) (by decide +kernel) rfl) <|
  mm_at_cons (ok_callV (z := 65) (ci := 5) (idx := 127) rfl hS ⟨rfl, rfl⟩ (mm_rmok (by decide)) rfl ct_good ww_247 (mm_4 ww_248 ww_249 sel_65 ww_172) (by decide +kernel) (by decide +kernel)) <|
  mm_at_cons (ok_istore (by decide +kernel)) <|
  mm_at_cons (ok_iload (by decide +kernel)) <|
  mm_at_cons (ok_if_lt (off := 50) (by decide +kernel) (by decide)) <|
  mm_at_cons (ok_iload_n (k := 3) (by decide +kernel) rfl) <|
  mm_at_cons (ok_if_lt (off := 9) (by decide +kernel) (by decide)) <|
  mm_at_cons (ok_iload (by decide +kernel)) <|
  mm_at_cons (ok_iload_n (k := 3) (by decide +kernel) rfl) <|
  mm_at_cons (ok_icmp_ge (off := 40) (by decide +kernel) (by decide)) <|
  mm_at_cons (ok_iload (by decide +kernel)) <|
  mm_at_cons (ok_istore_n (k := 3) (by decide +kernel) rfl) <|
  mm_at_cons (ok_aload_n (k := 0) (by decide +kernel) rfl) <|
  mm_at_cons (ok_iload_n (k := 2) (by decide +kernel) rfl) <|
  mm_at_cons (ok_putf (ci := 5) (k := 12) (idx := 124) rfl ct_in5 (by decide) ww_246 rfl ct_ty5 ct_tyok5 ct_nm5 rfl (by decide +kernel) rfl (by decide +kernel)) <|
  mm_at_cons (ok_iconst (n := 0) (by decide +kernel) (by decide)) <|
  mm_at_cons (ok_istore (by decide +kernel)) <|
  mm_at_cons (ok_iload (by decide +kernel)) <|
  mm_at_cons (ok_iload_n (k := 2) (by decide +kernel) rfl) <|
  mm_at_cons (ok_icmp_ge (off := 23) (by decide +kernel) (by decide)) <|
  mm_at_cons (ok_aload_n (k := 0) (by decide +kernel) rfl) <|
  mm_at_cons (ok_getr (ck := 6) (off := 6) (ci := 5) (k := 11) (idx := 25) rfl ct_in5 (by decide) ww_250 rfl rfl (by decide +kernel)) <|
  mm_at_cons (ok_iload (by decide +kernel)) <|
  mm_at_cons (ok_aload_n (k := 0) (by decide +kernel) rfl) <|
  mm_at_cons (ok_getr (ck := 14) (off := 5) (ci := 5) (k := 10) (idx := 22) rfl ct_in5 (by decide) ww_239 rfl rfl (by decide +kernel)) <|
  mm_at_cons (ok_iload (by decide +kernel)) <|
  mm_at_cons (ok_iald (t9 := 0) (by decide) rfl rfl (by decide +kernel)) <|
  mm_at_cons (ok_iast (t9 := 0) (by decide) rfl rfl (by decide +kernel)) <|
  mm_at_cons (ok_iinc (n := 1) (by decide +kernel) (by decide)) <|
  mm_at_cons (ok_goto (off := (-23)) (by decide +kernel) (by decide)) <|
  mm_at_cons (ok_iinc (n := (-1)) (by decide +kernel) (by decide)) <|
  mm_at_cons (ok_goto (off := (-74)) (by decide +kernel) (by decide)) <|
  mm_at_cons (ok_aload_n (k := 0) (by decide +kernel) rfl) <|
  mm_at_cons (ok_getr (ck := 14) (off := 5) (ci := 5) (k := 10) (idx := 22) rfl ct_in5 (by decide) ww_239 rfl rfl (by decide +kernel)) <|
  mm_at_cons (ok_iload (by decide +kernel)) <|
  mm_at_cons (ok_dup2 (by decide +kernel)) <|
  mm_at_cons (ok_iald (t9 := 0) (by decide) rfl rfl (by decide +kernel)) <|
  mm_at_cons (ok_iconst (n := 1) (by decide +kernel) (by decide)) <|
  mm_at_cons (ok_iadd (by decide +kernel)) <|
  mm_at_cons (ok_iast (t9 := 0) (by decide) rfl rfl (by decide +kernel)) <|
  mm_at_cons (ok_aload_n (k := 0) (by decide +kernel) rfl) <|
  mm_at_cons (ok_getr (ck := 14) (off := 5) (ci := 5) (k := 10) (idx := 22) rfl ct_in5 (by decide) ww_239 rfl rfl (by decide +kernel)) <|
  mm_at_cons (ok_iload (by decide +kernel)) <|
  mm_at_cons (ok_iald (t9 := 0) (by decide) rfl rfl (by decide +kernel)) <|
  mm_at_cons (ok_bipush (n := 10) (by decide +kernel) (by decide)) <|
  mm_at_cons (ok_aload_n (k := 0) (by decide +kernel) rfl) <|
  mm_at_cons (ok_getf (ci := 5) (k := 5) (idx := 39) rfl ct_in5 (by decide) ww_173 rfl rfl (by decide +kernel)) <|
  mm_at_cons (ok_imul (by decide +kernel)) <|
  mm_at_cons (ok_icmp_ge (off := 26) (by decide +kernel) (by decide)) <|
  mm_at_cons (ok_aload_n (k := 0) (by decide +kernel) rfl) <|
  mm_at_cons (ok_iload (by decide +kernel)) <|
  mm_at_cons (ok_callV (z := 67) (ci := 5) (idx := 130) rfl hS ⟨rfl, rfl⟩ (mm_rmok (by decide)) rfl ct_good ww_251 (mm_4 ww_252 ww_253 sel_67 ww_172) (by decide +kernel) (by decide +kernel)) <|
  mm_at_cons (ok_if_ne (off := 17) (by decide +kernel) (by decide)) <|
  mm_at_cons (ok_aload_n (k := 0) (by decide +kernel) rfl) <|
  mm_at_cons (ok_getr (ck := 14) (off := 5) (ci := 5) (k := 10) (idx := 22) rfl ct_in5 (by decide) ww_239 rfl rfl (by decide +kernel)) <|
  mm_at_cons (ok_iload (by decide +kernel)) <|
  mm_at_cons (ok_dup2 (by decide +kernel)) <|
  mm_at_cons (ok_iald (t9 := 0) (by decide) rfl rfl (by decide +kernel)) <|
  mm_at_cons (ok_iconst (n := 1) (by decide +kernel) (by decide)) <|
  mm_at_cons (ok_iadd (by decide +kernel)) <|
  mm_at_cons (ok_iast (t9 := 0) (by decide) rfl rfl (by decide +kernel)) <|
  mm_at_cons (ok_goto (off := (-37)) (by decide +kernel) (by decide)) <|
  mm_at_cons (ok_aload_n (k := 0) (by decide +kernel) rfl) <|
  mm_at_cons (ok_getr (ck := 14) (off := 5) (ci := 5) (k := 10) (idx := 22) rfl ct_in5 (by decide) ww_239 rfl rfl (by decide +kernel)) <|
  mm_at_cons (ok_iload (by decide +kernel)) <|
  mm_at_cons (ok_iald (t9 := 0) (by decide) rfl rfl (by decide +kernel)) <|
  mm_at_cons (ok_bipush (n := 10) (by decide +kernel) (by decide)) <|
  mm_at_cons (ok_aload_n (k := 0) (by decide +kernel) rfl) <|
  mm_at_cons (ok_getf (ci := 5) (k := 5) (idx := 39) rfl ct_in5 (by decide) ww_173 rfl rfl (by decide +kernel)) <|
  mm_at_cons (ok_imul (by decide +kernel)) <|
  mm_at_cons (ok_icmp_ge (off := 17) (by decide +kernel) (by decide)) <|
  mm_at_cons (ok_iinc (n := 1) (by decide +kernel) (by decide)) <|
  mm_at_cons (ok_aload_n (k := 0) (by decide +kernel) rfl) <|
  mm_at_cons (ok_getr (ck := 14) (off := 5) (ci := 5) (k := 10) (idx := 22) rfl ct_in5 (by decide) ww_239 rfl rfl (by decide +kernel)) <|
  mm_at_cons (ok_iload (by decide +kernel)) <|
  mm_at_cons (ok_iconst (n := (-1)) (by decide +kernel) (by decide)) <|
  mm_at_cons (ok_iast (t9 := 0) (by decide) rfl rfl (by decide +kernel)) <|
  mm_at_cons (ok_goto (off := (-156)) (by decide +kernel) (by decide)) <|
  mm_at_cons (ok_iinc (n := (-1)) (by decide +kernel) (by decide)) <|
  mm_at_cons (ok_goto (off := (-162)) (by decide +kernel) (by decide)) <|
  mm_at_cons (ok_iload_n (k := 3) (by decide +kernel) rfl) <|
  mm_at_nil
theorem ro_Mo_plan : mm_RtOk prog_7_method_37_code (some .int) rt_Mo_plan :=
  mm_rt_cons (Or.inr (Or.inl ⟨rfl, rfl, by decide +kernel⟩)) <|
  mm_rt_cons (Or.inr (Or.inl ⟨rfl, rfl, by decide +kernel⟩)) <|
  mm_rt_nil
end
end
section
section
variable {D : va_G} {ad : Nat → Nat} {cA : Nat → ClassId} {l : Launch} {d : Nat} {S : mm_S}
set_option maxRecDepth 100000 in
set_option maxHeartbeats 4000000 in
theorem po_Mo_planned (hS : mm_Sound ct_GW ct_NW D ct_cl (ct_tys cA) ad cA ct_K ct_kd ct_N l ct_T (mm_rm d) S) : ∀ pc f, mm_at pg_Mo_planned pc = some f → mm_Ok ct_GW ct_NW D ct_cl (ct_tys cA) ad cA ct_K ct_kd ct_N l (mm_rm (d + 1)) "CraneTurnsModel" prog_7_method_38_code 2 S pc f :=
  mm_at_cons (ok_aload_n (k := 0) (by decide +kernel) rfl) <|
  mm_at_cons (ok_iload_n (k := 1) (by decide +kernel) rfl) <|
  mm_at_cons (ok_if_ge (off := 7) (by decide +kernel) (by decide)) <|
  mm_at_cons (ok_iconst (n := 1) (by decide +kernel) (by decide)) <|
  mm_at_cons (ok_goto (off := 4) (by decide +kernel) (by decide)) <|
  mm_at_cons (ok_iconst (n := 0) (by decide +kernel) (by decide)) <|
  mm_at_cons (ok_iconst (n := 0) (by decide +kernel) (by decide)) <|
  mm_at_cons (ok_iconst (n := 0) (by decide +kernel) (by decide)) <|
  mm_at_cons (ok_iconst (n := 0) (by decide +kernel) (by decide)) <|
  mm_at_cons (ok_callV (z := 34) (ci := 5) (idx := 42) rfl hS ⟨rfl, rfl⟩ (mm_rmok (by decide)) rfl ct_good ww_175 (mm_4 ww_176 ww_177 sel_34 ww_172) (by decide +kernel) (by decide +kernel)) <|
  mm_at_cons (ok_if_eq (off := 5) (by decide +kernel) (by decide)) <|
  mm_at_cons (ok_iconst (n := 0) (by decide +kernel) (by decide)) <|
  mm_at_cons (ok_iload_n (k := 1) (by decide +kernel) rfl) <|
  mm_at_cons (ok_aload_n (k := 0) (by decide +kernel) rfl) <|
  mm_at_cons (ok_getf (ci := 5) (k := 12) (idx := 124) rfl ct_in5 (by decide) ww_246 rfl rfl (by decide +kernel)) <|
  mm_at_cons (ok_icmp_ge (off := 12) (by decide +kernel) (by decide)) <|
  mm_at_cons (ok_aload_n (k := 0) (by decide +kernel) rfl) <|
  mm_at_cons (ok_getr (ck := 6) (off := 6) (ci := 5) (k := 11) (idx := 25) rfl ct_in5 (by decide) ww_250 rfl rfl (by decide +kernel)) <|
  mm_at_cons (ok_iload_n (k := 1) (by decide +kernel) rfl) <|
  mm_at_cons (ok_iald (t9 := 0) (by decide) rfl rfl (by decide +kernel)) <|
  mm_at_cons (ok_goto (off := 4) (by decide +kernel) (by decide)) <|
  mm_at_cons (ok_iconst (n := (-1)) (by decide +kernel) (by decide)) <|
  mm_at_nil
theorem ro_Mo_planned : mm_RtOk prog_7_method_38_code (some .int) rt_Mo_planned :=
  mm_rt_cons (Or.inr (Or.inl ⟨rfl, rfl, by decide +kernel⟩)) <|
  mm_rt_cons (Or.inr (Or.inl ⟨rfl, rfl, by decide +kernel⟩)) <|
  mm_rt_nil
end
end
section
theorem ct_all {P : Nat → Prop} {n : Nat} (h : ∀ z, z < n → P z) : ∀ z, ct_rt z ≠ [] → n = 70 → P z := fun z hz hn => h z (by
  rcases Nat.lt_or_ge z n with q | q
  · exact q
  · exfalso
    apply hz
    subst hn
    simp only [ct_rt, List.getD_eq_getElem?_getD]
    rw [List.getElem?_eq_none (by simpa using q)]
    rfl)
set_option maxRecDepth 100000 in
set_option maxHeartbeats 4000000 in
theorem ct_sound {D : va_G} {ad : Nat → Nat} {cA : Nat → ClassId} {l : Launch} : ∀ d, mm_Sound ct_GW ct_NW D ct_cl (ct_tys cA) ad cA ct_K ct_kd ct_N l ct_T (mm_rm d) (ct_Sem d) :=
  by
  refine mm_sound ct_lay (fun z hz => ct_all (n := 70) (P := fun z => plainName (ct_T.1 z).cls = true) (by decide +kernel) z hz rfl) (fun z hz => ct_all (n := 70) (P := fun z => mm_RtOk (ct_T.2.1 z) (ct_T.2.2.2 z) (ct_rt z)) (fun z h => ?_) z hz rfl) (fun d S hS z hz => ct_all (n := 70) (P := fun z => ∀ pc f, mm_at (ct_pg z) pc = some f → mm_Ok ct_GW ct_NW D ct_cl (ct_tys cA) ad cA ct_K ct_kd ct_N l (mm_rm (d + 1)) (ct_T.1 z).cls (ct_T.2.1 z) (ct_T.2.2.1 z) S pc f) (fun z h => ?_) z hz rfl)
  · match z, h with
    | 0, _ => exact ro_Ct_near
    | 1, _ => exact ro_Ct_within
    | 2, _ => exact ro_Cr_stand
    | 3, _ => exact ro_Cr_reaches
    | 4, _ => exact ro_Cr_hasGoal
    | 5, _ => exact ro_Cr_queue
    | 6, _ => exact ro_Cr_unqueue
    | 7, _ => exact ro_Cr_copyOf
    | 8, _ => exact ro_Jb_copyOf
    | 9, _ => exact ro_Pl_search
    | 10, _ => exact ro_Pl_bestGiving
    | 11, _ => exact ro_Pl_extendWay
    | 12, _ => exact ro_Pl_isTriedAlready
    | 13, _ => exact ro_Pl_tryWay
    | 14, _ => exact ro_Pl_keepWay
    | 15, _ => exact ro_Yd_hasTrack
    | 16, _ => exact ro_Yd_lay
    | 17, _ => exact ro_Yd_addJob
    | 18, _ => exact ro_Yd_hand
    | 19, _ => exact ro_Yd_free
    | 20, _ => exact ro_Yd_countFree
    | 21, _ => exact ro_Yd_floorOf
    | 22, _ => exact ro_Yd_ceilingOf
    | 23, _ => exact ro_Yd_hasRoom
    | 24, _ => exact ro_Yd_passSecond
    | 25, _ => exact ro_Yd_passSecondOf
    | 26, _ => exact ro_Yd_takeFirst
    | 27, _ => exact ro_Yd_handleIfThere
    | 28, _ => exact ro_Yd_liftOn
    | 29, _ => exact ro_Yd_setOn
    | 30, _ => exact ro_Yd_placeOutOfTheWay
    | 31, _ => exact ro_Yd_moveToward
    | 32, _ => exact ro_Yd_copyOf
    | 33, _ => exact ro_Mo_thrown
    | 34, _ => exact ro_Mo_throwing
    | 35, _ => exact ro_Mo_in
    | 36, _ => exact ro_Mo_isCrane
    | 37, _ => exact ro_Mo_isJob
    | 38, _ => exact ro_Mo_ofCrane
    | 39, _ => exact ro_Mo_setCrane
    | 40, _ => exact ro_Mo_ofJob
    | 41, _ => exact ro_Mo_setJob
    | 42, _ => exact ro_Mo_track
    | 43, _ => exact ro_Mo_crane
    | 44, _ => exact ro_Mo_job
    | 45, _ => exact ro_Mo_reaches
    | 46, _ => exact ro_Mo_giveTo
    | 47, _ => exact ro_Mo_give
    | 48, _ => exact ro_Mo_take
    | 49, _ => exact ro_Mo_broken
    | 50, _ => exact ro_Mo_firstOf
    | 51, _ => exact ro_Mo_hasGoal
    | 52, _ => exact ro_Mo_goalOf
    | 53, _ => exact ro_Mo_begins
    | 54, _ => exact ro_Mo_takesJob
    | 55, _ => exact ro_Mo_goes
    | 56, _ => exact ro_Mo_lessToGo
    | 57, _ => exact ro_Mo_givesWay
    | 58, _ => exact ro_Mo_second
    | 59, _ => exact ro_Mo_secondOfAll
    | 60, _ => exact ro_Mo_run
    | 61, _ => exact ro_Mo_at
    | 62, _ => exact ro_Mo_state
    | 63, _ => exact ro_Mo_near
    | 64, _ => exact ro_Mo_isAllDone
    | 65, _ => exact ro_Mo_secondsOf
    | 66, _ => exact ro_Mo_isInWay
    | 67, _ => exact ro_Mo_may
    | 68, _ => exact ro_Mo_plan
    | 69, _ => exact ro_Mo_planned
    | z + 70, h => exact absurd h (by omega)
  · match z, h with
    | 0, _ => exact po_Ct_near hS
    | 1, _ => exact po_Ct_within hS
    | 2, _ => exact po_Cr_stand hS
    | 3, _ => exact po_Cr_reaches hS
    | 4, _ => exact po_Cr_hasGoal hS
    | 5, _ => exact po_Cr_queue hS
    | 6, _ => exact po_Cr_unqueue hS
    | 7, _ => exact po_Cr_copyOf hS
    | 8, _ => exact po_Jb_copyOf hS
    | 9, _ => exact po_Pl_search hS
    | 10, _ => exact po_Pl_bestGiving hS
    | 11, _ => exact po_Pl_extendWay hS
    | 12, _ => exact po_Pl_isTriedAlready hS
    | 13, _ => exact po_Pl_tryWay hS
    | 14, _ => exact po_Pl_keepWay hS
    | 15, _ => exact po_Yd_hasTrack hS
    | 16, _ => exact po_Yd_lay hS
    | 17, _ => exact po_Yd_addJob hS
    | 18, _ => exact po_Yd_hand hS
    | 19, _ => exact po_Yd_free hS
    | 20, _ => exact po_Yd_countFree hS
    | 21, _ => exact po_Yd_floorOf hS
    | 22, _ => exact po_Yd_ceilingOf hS
    | 23, _ => exact po_Yd_hasRoom hS
    | 24, _ => exact po_Yd_passSecond hS
    | 25, _ => exact po_Yd_passSecondOf hS
    | 26, _ => exact po_Yd_takeFirst hS
    | 27, _ => exact po_Yd_handleIfThere hS
    | 28, _ => exact po_Yd_liftOn hS
    | 29, _ => exact po_Yd_setOn hS
    | 30, _ => exact po_Yd_placeOutOfTheWay hS
    | 31, _ => exact po_Yd_moveToward hS
    | 32, _ => exact po_Yd_copyOf hS
    | 33, _ => exact po_Mo_thrown hS
    | 34, _ => exact po_Mo_throwing hS
    | 35, _ => exact po_Mo_in hS
    | 36, _ => exact po_Mo_isCrane hS
    | 37, _ => exact po_Mo_isJob hS
    | 38, _ => exact po_Mo_ofCrane hS
    | 39, _ => exact po_Mo_setCrane hS
    | 40, _ => exact po_Mo_ofJob hS
    | 41, _ => exact po_Mo_setJob hS
    | 42, _ => exact po_Mo_track hS
    | 43, _ => exact po_Mo_crane hS
    | 44, _ => exact po_Mo_job hS
    | 45, _ => exact po_Mo_reaches hS
    | 46, _ => exact po_Mo_giveTo hS
    | 47, _ => exact po_Mo_give hS
    | 48, _ => exact po_Mo_take hS
    | 49, _ => exact po_Mo_broken hS
    | 50, _ => exact po_Mo_firstOf hS
    | 51, _ => exact po_Mo_hasGoal hS
    | 52, _ => exact po_Mo_goalOf hS
    | 53, _ => exact po_Mo_begins hS
    | 54, _ => exact po_Mo_takesJob hS
    | 55, _ => exact po_Mo_goes hS
    | 56, _ => exact po_Mo_lessToGo hS
    | 57, _ => exact po_Mo_givesWay hS
    | 58, _ => exact po_Mo_second hS
    | 59, _ => exact po_Mo_secondOfAll hS
    | 60, _ => exact po_Mo_run hS
    | 61, _ => exact po_Mo_at hS
    | 62, _ => exact po_Mo_state hS
    | 63, _ => exact po_Mo_near hS
    | 64, _ => exact po_Mo_isAllDone hS
    | 65, _ => exact po_Mo_secondsOf hS
    | 66, _ => exact po_Mo_isInWay hS
    | 67, _ => exact po_Mo_may hS
    | 68, _ => exact po_Mo_plan hS
    | 69, _ => exact po_Mo_planned hS
    | z + 70, h => exact absurd h (by omega)
end
section
/-! THE YARD SEEN: cranes (c, field), jobs (j, field), its own numbers, seconds (c, kind), waiting (c, place) -/
abbrev ya : Type := mm_M × mm_M × (Nat → Int32) × mm_M × mm_M
abbrev cr (A : ya) : mm_M := A.1
abbrev jb (A : ya) : mm_M := A.2.1
abbrev sc (A : ya) : Nat → Int32 := A.2.2.1
abbrev se (A : ya) : mm_M := A.2.2.2.1
abbrev wa (A : ya) : mm_M := A.2.2.2.2
def ucr (A : ya) (c k : Nat) (v : Int32) : ya := (mm_up A.1 c k v, A.2)
def ujb (A : ya) (j k : Nat) (v : Int32) : ya := (A.1, mm_up A.2.1 j k v, A.2.2)
def usc (A : ya) (k : Nat) (v : Int32) : ya := (A.1, A.2.1, upd A.2.2.1 k v, A.2.2.2)
def use (A : ya) (c k : Nat) (v : Int32) : ya := (A.1, A.2.1, A.2.2.1, mm_up A.2.2.2.1 c k v, A.2.2.2.2)
def uwa (A : ya) (c k : Nat) (v : Int32) : ya := (A.1, A.2.1, A.2.2.1, A.2.2.2.1, mm_up A.2.2.2.2 c k v)
def yv (b : Nat) (M : mm_M) : ya := (fun c k => M (b + 3 + 32 * c) k, fun j k => M (b + 6 + 32 * j) k, fun k => M b k, fun c k => M (b + 3 + 32 * c + 1) k, fun c k => M (b + 3 + 32 * c + 2) k)
theorem mm_up_z {M : mm_M} {i k : Nat} {v : Int32} {j : Nat} (h : j ≠ i) : mm_up M i k v j = M j := mm_up_i M k v h
theorem yv_ext {A B : ya} (h1 : ∀ c k, A.1 c k = B.1 c k) (h2 : ∀ c k, A.2.1 c k = B.2.1 c k) (h3 : ∀ k, A.2.2.1 k = B.2.2.1 k) (h4 : ∀ c k, A.2.2.2.1 c k = B.2.2.2.1 c k) (h5 : ∀ c k, A.2.2.2.2 c k = B.2.2.2.2 c k) : A = B :=
  Prod.ext (funext fun c => funext fun k => h1 c k) (Prod.ext (funext fun c => funext fun k => h2 c k) (Prod.ext (funext fun k => h3 k) (Prod.ext (funext fun c => funext fun k => h4 c k) (funext fun c => funext fun k => h5 c k))))
theorem mm_up_w {M A : mm_M} {i k : Nat} {v : Int32} {o : Nat → Nat} {c j q : Nat} (ho : ∀ c j, o c = o j → c = j) (hA : ∀ c k, M (o c) k = A c k) (hi : i = o c) : mm_up M i k v (o j) q = mm_up A c k v j q := by
  subst hi
  by_cases h : j = c
  · subst h
    by_cases hq : q = k
    · subst hq; simp [mm_up]
    · simp [mm_up, hq, hA]
  · have h2 : o j ≠ o c := fun e => h (ho _ _ e)
    rw [mm_up_z h2, mm_up_z h, hA]
theorem yv_cr {b : Nat} {M : mm_M} {c k : Nat} {v : Int32} : yv b (mm_up M (b + 3 + 32 * c) k v) = ucr (yv b M) c k v := by
  refine yv_ext (fun j q => ?_) (fun j q => ?_) (fun q => ?_) (fun j q => ?_) (fun j q => ?_)
  · exact mm_up_w (o := fun c => b + 3 + 32 * c) (fun c j h => by omega) (fun _ _ => rfl) rfl
  · exact congrFun (mm_up_z (by omega)) q
  · exact congrFun (mm_up_z (by omega)) q
  · exact congrFun (mm_up_z (by omega)) q
  · exact congrFun (mm_up_z (by omega)) q
theorem yv_jb {b : Nat} {M : mm_M} {c k : Nat} {v : Int32} : yv b (mm_up M (b + 6 + 32 * c) k v) = ujb (yv b M) c k v := by
  refine yv_ext (fun j q => ?_) (fun j q => ?_) (fun q => ?_) (fun j q => ?_) (fun j q => ?_)
  · exact congrFun (mm_up_z (by omega)) q
  · exact mm_up_w (o := fun c => b + 6 + 32 * c) (fun c j h => by omega) (fun _ _ => rfl) rfl
  · exact congrFun (mm_up_z (by omega)) q
  · exact congrFun (mm_up_z (by omega)) q
  · exact congrFun (mm_up_z (by omega)) q
theorem yv_se {b : Nat} {M : mm_M} {c k : Nat} {v : Int32} : yv b (mm_up M (b + 3 + 32 * c + 1) k v) = use (yv b M) c k v := by
  refine yv_ext (fun j q => ?_) (fun j q => ?_) (fun q => ?_) (fun j q => ?_) (fun j q => ?_)
  · exact congrFun (mm_up_z (by omega)) q
  · exact congrFun (mm_up_z (by omega)) q
  · exact congrFun (mm_up_z (by omega)) q
  · exact mm_up_w (o := fun c => b + 3 + 32 * c + 1) (fun c j h => by omega) (fun _ _ => rfl) rfl
  · exact congrFun (mm_up_z (by omega)) q
theorem yv_wa {b : Nat} {M : mm_M} {c k : Nat} {v : Int32} : yv b (mm_up M (b + 3 + 32 * c + 2) k v) = uwa (yv b M) c k v := by
  refine yv_ext (fun j q => ?_) (fun j q => ?_) (fun q => ?_) (fun j q => ?_) (fun j q => ?_)
  · exact congrFun (mm_up_z (by omega)) q
  · exact congrFun (mm_up_z (by omega)) q
  · exact congrFun (mm_up_z (by omega)) q
  · exact congrFun (mm_up_z (by omega)) q
  · exact mm_up_w (o := fun c => b + 3 + 32 * c + 2) (fun c j h => by omega) (fun _ _ => rfl) rfl
theorem yv_sc {b : Nat} {M : mm_M} {k : Nat} {v : Int32} : yv b (mm_up M b k v) = usc (yv b M) k v := by
  refine yv_ext (fun j q => ?_) (fun j q => ?_) (fun q => ?_) (fun j q => ?_) (fun j q => ?_)
  · exact congrFun (mm_up_z (by omega)) q
  · exact congrFun (mm_up_z (by omega)) q
  · show mm_up M b k v b q = upd (M b) k v q
    rw [mm_up_row]
  · exact congrFun (mm_up_z (by omega)) q
  · exact congrFun (mm_up_z (by omega)) q
/-- what isn't the yard's stays -/
def yo (b i : Nat) : Prop := b ≤ i % 32 ∧ i % 32 ≤ b + 6
def yf (b : Nat) (M M' : mm_M) : Prop := ∀ i, ¬ yo b i → M' i = M i
theorem yf_rf {b : Nat} {M : mm_M} : yf b M M := fun _ _ => rfl
theorem yf_tr {b : Nat} {M M1 M2 : mm_M} (h : yf b M M1) (h2 : yf b M1 M2) : yf b M M2 := fun i hi => (h2 i hi).trans (h i hi)
theorem yf_up {b i k : Nat} {v : Int32} {M M1 : mm_M} (h : yf b M M1) (hi : yo b i) : yf b M (mm_up M1 i k v) := fun j hj => by
  have hne : j ≠ i := fun e => hj (by rw [e]; exact hi)
  rw [mm_up_z hne]
  exact h j hj
/-- method z on memory M: it ends, the answer is r, the yard at b is A', the rest stays -/
def YS (d z b : Nat) (M : mm_M) (as : List mm_V) (r : Option Int32) (A' : ya) : Prop := ∃ M', ct_Sem d z M as (r, M') ∧ yv b M' = A' ∧ yf b M M'
def yQ (b : Nat) (M : mm_M) (r : Option Int32) (A' : ya) : mm_R → Prop := fun res => res.1 = r ∧ yv b res.2 = A' ∧ yf b M res.2
theorem YS_of {d z b : Nat} {M : mm_M} {as : List mm_V} {r : Option Int32} {A' : ya} (hn : as.length ≤ ct_T.2.2.1 z) (h : mm_Wp (ct_pg z) (ct_rt z) (ct_Sem d) (M, 0, as.map some ++ List.replicate (ct_T.2.2.1 z - as.length) none, []) (yQ b M r A')) : YS (d + 1) z b M as r A' := by
  obtain ⟨⟨r1, M1⟩, h1, h2, h3, h4⟩ := h
  simp only at h2 h3 h4
  subst h2
  exact ⟨M1, ⟨hn, h1⟩, h3, h4⟩
theorem nI_m1 {c : Nat} (h : 0 < c) : nI c - 1 = nI (c - 1) := by
  rcases c with _ | c
  · exact absurd h (Nat.lt_irrefl 0)
  · exact nI_pred c
theorem SM_of {d z : Nat} {M : mm_M} {as : List mm_V} {r : mm_R} (hn : as.length ≤ ct_T.2.2.1 z) (h : mm_Wp (ct_pg z) (ct_rt z) (ct_Sem d) (M, 0, as.map some ++ List.replicate (ct_T.2.2.1 z - as.length) none, []) (fun res => res = r)) : ct_Sem (d + 1) z M as r := by
  obtain ⟨res, h1, h2⟩ := h
  subst h2
  exact ⟨hn, h1⟩
/-- an int that is a place below n -/
def ix (x : Int32) : Nat := x.toNatClampNeg
def okx (n : Nat) (x : Int32) : Prop := x = nI (ix x) ∧ ix x < n
theorem okx_nI {n j : Nat} (h : j < n) (hn : n < 2 ^ 31) : okx n (nI j) := by
  unfold okx ix
  rw [nI_clamp (by omega)]
  exact ⟨rfl, h⟩
theorem ix_nI {j : Nat} (h : j < 2 ^ 31) : ix (nI j) = j := nI_clamp h
theorem okx_of {n j : Nat} {x : Int32} (h : x = nI j) (hj : j < n) (hn : n < 2 ^ 31) : okx n x := by rw [h]; exact okx_nI hj hn
/-- the number of cranes is n -/
def ynn (A : ya) (n : Nat) : Prop := sc A 0 = nI n ∧ n ≤ 3
theorem nI_gt0 {c : Nat} (h : ¬ nI c ≤ 0) : 0 < c := by
  rcases c with _ | c
  · exact absurd (by decide) h
  · omega
theorem nI_lt1 {c n : Nat} {x : Int32} (hx : x = nI n) (hn : n ≤ 3) (hc : c < 3) (h : ¬ x ≤ nI c + 1) : c + 1 < n := by
  subst hx
  rcases Nat.lt_or_ge (c + 1) n with q | q
  · exact q
  · exact absurd (by rw [nI_1]; exact nI_le q (by omega)) h
end
section
def f_Ct_within  (v : Int32) (a : Int32) (e : Int32) : Int32 := (if v < a then 0 else (if e < v then 0 else 1))
set_option maxRecDepth 20000 in
set_option maxHeartbeats 1000000 in
theorem sm_Ct_within {d : Nat} {M : mm_M} {v : Int32} {a : Int32} {e : Int32}  : ct_Sem (d + 1) 1 M [.inl v, .inl a, .inl e] (some (f_Ct_within  v a e), M) := by
  refine SM_of (Nat.le_of_ble_eq_true rfl) ?_
  show mm_Wp pg_Ct_within rt_Ct_within (ct_Sem (d + 0)) (M, 0, [some (.inl v), some (.inl a), some (.inl e)], []) _
  refine wgo (g' := (M, 2, [some (.inl v), some (.inl a), some (.inl e)], [.inl a, .inl v])) [oz 0, oz 0] rfl ⟨trivial, trivial, trivial⟩ ?_
  by_cases h1 : v < a
  · have k2 : v < a := by
      have q : v < a := h1
      exact q
    refine wgo (g' := (M, 15, [some (.inl v), some (.inl a), some (.inl e)], [.inl 0])) [oz 1, oz 0] rfl ⟨h1, trivial, trivial⟩ ?_
    have x3 : f_Ct_within v a e = 0 := by
      unfold f_Ct_within
      rw [if_pos k2]
    exact wend ⟨_, rfl, rfl, Or.inl rfl⟩ (congrArg (fun q => (some q, M)) x3.symm)
  · have k4 : ¬ (v < a) := by
      have q : ¬ (v < a) := h1
      exact q
    refine wgo (g' := (M, 7, [some (.inl v), some (.inl a), some (.inl e)], [.inl e, .inl v])) [oz 0, oz 0, oz 0] rfl ⟨h1, trivial, trivial, trivial⟩ ?_
    by_cases h5 : e < v
    · have k6 : e < v := by
        have q : e < v := h5
        exact q
      refine wgo (g' := (M, 15, [some (.inl v), some (.inl a), some (.inl e)], [.inl 0])) [oz 1, oz 0] rfl ⟨h5, trivial, trivial⟩ ?_
      have x7 : f_Ct_within v a e = 0 := by
        unfold f_Ct_within
        rw [if_neg k4, if_pos k6]
      exact wend ⟨_, rfl, rfl, Or.inl rfl⟩ (congrArg (fun q => (some q, M)) x7.symm)
    · have k8 : ¬ (e < v) := by
        have q : ¬ (e < v) := h5
        exact q
      refine wgo (g' := (M, 15, [some (.inl v), some (.inl a), some (.inl e)], [.inl 1])) [oz 0, oz 0, oz 0] rfl ⟨h5, trivial, trivial, trivial⟩ ?_
      have x9 : f_Ct_within v a e = 1 := by
        unfold f_Ct_within
        rw [if_neg k4, if_neg k8]
      exact wend ⟨_, rfl, rfl, Or.inr rfl⟩ (congrArg (fun q => (some q, M)) x9.symm)
theorem f_in01 (v a e : Int32) : f_Ct_within v a e = 0 ∨ f_Ct_within v a e = 1 := by
  unfold f_Ct_within
  split
  · exact Or.inl rfl
  · split
    · exact Or.inl rfl
    · exact Or.inr rfl
def f_Cr_hasGoal (A : ya) (c : Nat) : Int32 := (if (cr (A) c 5) = 1 then 1 else (if (cr (A) c 5) = 3 then 1 else 0))
set_option maxRecDepth 20000 in
set_option maxHeartbeats 1000000 in
theorem sm_Cr_hasGoal {d b : Nat} {M : mm_M} {c : Nat}  : ct_Sem (d + 1) 4 M [.inr (0, b + 3 + 32 * c)] (some (f_Cr_hasGoal (yv b M) c), M) := by
  refine SM_of (Nat.le_of_ble_eq_true rfl) ?_
  show mm_Wp pg_Cr_hasGoal rt_Cr_hasGoal (ct_Sem (d + 0)) (M, 0, [some (.inr (0, b + 3 + 32 * c))], []) _
  refine wgo (g' := (M, 5, [some (.inr (0, b + 3 + 32 * c))], [.inl 1, .inl (M (b + 3 + 32 * c) 5)])) [oz 0, oz 0, oz 0] rfl ⟨trivial, trivial, trivial, trivial⟩ ?_
  by_cases h1 : (M (b + 3 + 32 * c) 5) = 1
  · have k2 : (cr ((yv b M)) c 5) = 1 := by
      have q : (cr (yv b M) c 5) = 1 := h1
      exact q
    refine wgo (g' := (M, 21, [some (.inr (0, b + 3 + 32 * c))], [.inl 1])) [oz 1, oz 0, oz 0] rfl ⟨h1, trivial, trivial, trivial⟩ ?_
    have x3 : f_Cr_hasGoal (yv b M) c = 1 := by
      unfold f_Cr_hasGoal
      rw [if_pos k2]
    exact wend ⟨_, rfl, rfl, Or.inr rfl⟩ (congrArg (fun q => (some q, M)) x3.symm)
  · have k4 : ¬ ((cr ((yv b M)) c 5) = 1) := by
      have q : ¬ ((cr (yv b M) c 5) = 1) := h1
      exact q
    refine wgo (g' := (M, 13, [some (.inr (0, b + 3 + 32 * c))], [.inl 3, .inl (M (b + 3 + 32 * c) 5)])) [oz 0, oz 0, oz 0, oz 0] rfl ⟨h1, trivial, trivial, trivial, trivial⟩ ?_
    by_cases h5 : (M (b + 3 + 32 * c) 5) = 3
    · have k6 : (cr ((yv b M)) c 5) = 3 := by
        have q : (cr (yv b M) c 5) = 3 := h5
        exact q
      refine wgo (g' := (M, 21, [some (.inr (0, b + 3 + 32 * c))], [.inl 1])) [oz 0, oz 0, oz 0] rfl ⟨(fun z => z h5), trivial, trivial, trivial⟩ ?_
      have x7 : f_Cr_hasGoal (yv b M) c = 1 := by
        unfold f_Cr_hasGoal
        rw [if_neg k4, if_pos k6]
      exact wend ⟨_, rfl, rfl, Or.inr rfl⟩ (congrArg (fun q => (some q, M)) x7.symm)
    · have k8 : ¬ ((cr ((yv b M)) c 5) = 3) := by
        have q : ¬ ((cr (yv b M) c 5) = 3) := h5
        exact q
      refine wgo (g' := (M, 21, [some (.inr (0, b + 3 + 32 * c))], [.inl 0])) [oz 1, oz 0] rfl ⟨h5, trivial, trivial⟩ ?_
      have x9 : f_Cr_hasGoal (yv b M) c = 0 := by
        unfold f_Cr_hasGoal
        rw [if_neg k4, if_neg k8]
      exact wend ⟨_, rfl, rfl, Or.inl rfl⟩ (congrArg (fun q => (some q, M)) x9.symm)
def f_Cr_reaches (A : ya) (c : Nat) (j : Nat) : Int32 := (if (f_Ct_within (jb (A) j 0) (cr (A) c 1) (cr (A) c 2)) = 0 then 0 else (if (f_Ct_within (jb (A) j 1) (cr (A) c 1) (cr (A) c 2)) = 0 then 0 else 1))
set_option maxRecDepth 20000 in
set_option maxHeartbeats 1000000 in
theorem sm_Cr_reaches {d b : Nat} {M : mm_M} {c : Nat} {j : Nat}  : ct_Sem (d + 2) 3 M [.inr (0, b + 3 + 32 * c), .inr (1, b + 6 + 32 * j)] (some (f_Cr_reaches (yv b M) c j), M) := by
  refine SM_of (Nat.le_of_ble_eq_true rfl) ?_
  show mm_Wp pg_Cr_reaches rt_Cr_reaches (ct_Sem (d + 1)) (M, 0, [some (.inr (0, b + 3 + 32 * c)), some (.inr (1, b + 6 + 32 * j))], []) _
  refine wgo (g' := (M, 12, [some (.inr (0, b + 3 + 32 * c)), some (.inr (1, b + 6 + 32 * j))], [.inl (M (b + 3 + 32 * c) 2), .inl (M (b + 3 + 32 * c) 1), .inl (M (b + 6 + 32 * j) 0)])) [oz 0, oz 0, oz 0, oz 0, oz 0, oz 0] rfl ⟨trivial, trivial, trivial, trivial, trivial, trivial, trivial⟩ ?_
  have s1 := sm_Ct_within (d := d)  (M := M) (v := M (b + 6 + 32 * j) 0) (a := M (b + 3 + 32 * c) 1) (e := M (b + 3 + 32 * c) 2) 
  refine wgo (g' := (M, 15, [some (.inr (0, b + 3 + 32 * c)), some (.inr (1, b + 6 + 32 * j))], [.inl (f_Ct_within (M (b + 6 + 32 * j) 0) (M (b + 3 + 32 * c) 1) (M (b + 3 + 32 * c) 2))])) [oc (some (f_Ct_within (M (b + 6 + 32 * j) 0) (M (b + 3 + 32 * c) 1) (M (b + 3 + 32 * c) 2)), M)] rfl ⟨⟨s1, Nat.le_of_ble_eq_true rfl, Nat.le_of_ble_eq_true rfl, trivial⟩, trivial⟩ ?_
  by_cases h2 : (f_Ct_within (M (b + 6 + 32 * j) 0) (M (b + 3 + 32 * c) 1) (M (b + 3 + 32 * c) 2)) = 0
  · have k3 : (f_Ct_within (jb ((yv b M)) j 0) (cr ((yv b M)) c 1) (cr ((yv b M)) c 2)) = 0 := by
      have q : (f_Ct_within (jb (yv b M) j 0) (cr (yv b M) c 1) (cr (yv b M) c 2)) = 0 := h2
      exact q
    refine wgo (g' := (M, 41, [some (.inr (0, b + 3 + 32 * c)), some (.inr (1, b + 6 + 32 * j))], [.inl 0])) [oz 1, oz 0] rfl ⟨h2, trivial, trivial⟩ ?_
    have x4 : f_Cr_reaches (yv b M) c j = 0 := by
      unfold f_Cr_reaches
      rw [if_pos k3]
    exact wend ⟨_, rfl, rfl, Or.inl rfl⟩ (congrArg (fun q => (some q, M)) x4.symm)
  · have k5 : ¬ ((f_Ct_within (jb ((yv b M)) j 0) (cr ((yv b M)) c 1) (cr ((yv b M)) c 2)) = 0) := by
      have q : ¬ ((f_Ct_within (jb (yv b M) j 0) (cr (yv b M) c 1) (cr (yv b M) c 2)) = 0) := h2
      exact q
    refine wgo (g' := (M, 30, [some (.inr (0, b + 3 + 32 * c)), some (.inr (1, b + 6 + 32 * j))], [.inl (M (b + 3 + 32 * c) 2), .inl (M (b + 3 + 32 * c) 1), .inl (M (b + 6 + 32 * j) 1)])) [oz 0, oz 0, oz 0, oz 0, oz 0, oz 0, oz 0] rfl ⟨h2, trivial, trivial, trivial, trivial, trivial, trivial, trivial⟩ ?_
    have s6 := sm_Ct_within (d := d)  (M := M) (v := M (b + 6 + 32 * j) 1) (a := M (b + 3 + 32 * c) 1) (e := M (b + 3 + 32 * c) 2) 
    refine wgo (g' := (M, 33, [some (.inr (0, b + 3 + 32 * c)), some (.inr (1, b + 6 + 32 * j))], [.inl (f_Ct_within (M (b + 6 + 32 * j) 1) (M (b + 3 + 32 * c) 1) (M (b + 3 + 32 * c) 2))])) [oc (some (f_Ct_within (M (b + 6 + 32 * j) 1) (M (b + 3 + 32 * c) 1) (M (b + 3 + 32 * c) 2)), M)] rfl ⟨⟨s6, Nat.le_of_ble_eq_true rfl, Nat.le_of_ble_eq_true rfl, trivial⟩, trivial⟩ ?_
    by_cases h7 : (f_Ct_within (M (b + 6 + 32 * j) 1) (M (b + 3 + 32 * c) 1) (M (b + 3 + 32 * c) 2)) = 0
    · have k8 : (f_Ct_within (jb ((yv b M)) j 1) (cr ((yv b M)) c 1) (cr ((yv b M)) c 2)) = 0 := by
        have q : (f_Ct_within (jb (yv b M) j 1) (cr (yv b M) c 1) (cr (yv b M) c 2)) = 0 := h7
        exact q
      refine wgo (g' := (M, 41, [some (.inr (0, b + 3 + 32 * c)), some (.inr (1, b + 6 + 32 * j))], [.inl 0])) [oz 1, oz 0] rfl ⟨h7, trivial, trivial⟩ ?_
      have x9 : f_Cr_reaches (yv b M) c j = 0 := by
        unfold f_Cr_reaches
        rw [if_neg k5, if_pos k8]
      exact wend ⟨_, rfl, rfl, Or.inl rfl⟩ (congrArg (fun q => (some q, M)) x9.symm)
    · have k10 : ¬ ((f_Ct_within (jb ((yv b M)) j 1) (cr ((yv b M)) c 1) (cr ((yv b M)) c 2)) = 0) := by
        have q : ¬ ((f_Ct_within (jb (yv b M) j 1) (cr (yv b M) c 1) (cr (yv b M) c 2)) = 0) := h7
        exact q
      refine wgo (g' := (M, 41, [some (.inr (0, b + 3 + 32 * c)), some (.inr (1, b + 6 + 32 * j))], [.inl 1])) [oz 0, oz 0, oz 0] rfl ⟨h7, trivial, trivial, trivial⟩ ?_
      have x11 : f_Cr_reaches (yv b M) c j = 1 := by
        unfold f_Cr_reaches
        rw [if_neg k5, if_neg k10]
      exact wend ⟨_, rfl, rfl, Or.inr rfl⟩ (congrArg (fun q => (some q, M)) x11.symm)
def f_Yd_hasTrack (A : ya)  : Int32 := (if (sc (A) 0) ≤ 0 then 0 else 1)
set_option maxRecDepth 20000 in
set_option maxHeartbeats 1000000 in
theorem sm_Yd_hasTrack {d b : Nat} {M : mm_M}   : ct_Sem (d + 1) 15 M [.inr (3, b)] (some (f_Yd_hasTrack (yv b M) ), M) := by
  refine SM_of (Nat.le_of_ble_eq_true rfl) ?_
  show mm_Wp pg_Yd_hasTrack rt_Yd_hasTrack (ct_Sem (d + 0)) (M, 0, [some (.inr (3, b))], []) _
  refine wgo (g' := (M, 4, [some (.inr (3, b))], [.inl (M b 0)])) [oz 0, oz 0] rfl ⟨trivial, trivial, trivial⟩ ?_
  by_cases h1 : (M b 0) ≤ 0
  · have k2 : (sc ((yv b M)) 0) ≤ 0 := by
      have q : (sc (yv b M) 0) ≤ 0 := h1
      exact q
    refine wgo (g' := (M, 12, [some (.inr (3, b))], [.inl 0])) [oz 1, oz 0] rfl ⟨h1, trivial, trivial⟩ ?_
    have x3 : f_Yd_hasTrack (yv b M) = 0 := by
      unfold f_Yd_hasTrack
      rw [if_pos k2]
    exact wend ⟨_, rfl, rfl, Or.inl rfl⟩ (congrArg (fun q => (some q, M)) x3.symm)
  · have k4 : ¬ ((sc ((yv b M)) 0) ≤ 0) := by
      have q : ¬ ((sc (yv b M) 0) ≤ 0) := h1
      exact q
    refine wgo (g' := (M, 12, [some (.inr (3, b))], [.inl 1])) [oz 0, oz 0, oz 0] rfl ⟨h1, trivial, trivial, trivial⟩ ?_
    have x5 : f_Yd_hasTrack (yv b M) = 1 := by
      unfold f_Yd_hasTrack
      rw [if_neg k4]
    exact wend ⟨_, rfl, rfl, Or.inr rfl⟩ (congrArg (fun q => (some q, M)) x5.symm)
def f_Yd_floorOf (A : ya) (c : Nat) : Int32 := (if (nI c) ≤ 0 then 0 else (cr (A) (c - 1) 0) + (sc (A) 1))
set_option maxRecDepth 20000 in
set_option maxHeartbeats 1000000 in
theorem sm_Yd_floorOf {d b : Nat} {M : mm_M} {c : Nat} (hc : c < 3) : ct_Sem (d + 1) 21 M [.inr (3, b), .inl (nI c)] (some (f_Yd_floorOf (yv b M) c), M) := by
  refine SM_of (Nat.le_of_ble_eq_true rfl) ?_
  show mm_Wp pg_Yd_floorOf rt_Yd_floorOf (ct_Sem (d + 0)) (M, 0, [some (.inr (3, b)), some (.inl (nI c))], []) _
  refine wgo (g' := (M, 1, [some (.inr (3, b)), some (.inl (nI c))], [.inl (nI c)])) [oz 0] rfl ⟨trivial, trivial⟩ ?_
  by_cases h1 : (nI c) ≤ 0
  · have k2 : (nI c) ≤ 0 := by
      have q : (nI c) ≤ 0 := h1
      exact q
    refine wgo (g' := (M, 24, [some (.inr (3, b)), some (.inl (nI c))], [.inl 0])) [oz 1, oz 0] rfl ⟨h1, trivial, trivial⟩ ?_
    have x3 : f_Yd_floorOf (yv b M) c = 0 := by
      unfold f_Yd_floorOf
      rw [if_pos k2]
    exact wend ⟨_, rfl, rfl⟩ (congrArg (fun q => (some q, M)) x3.symm)
  · have k4 : ¬ ((nI c) ≤ 0) := by
      have q : ¬ ((nI c) ≤ 0) := h1
      exact q
    refine wgo (g' := (M, 24, [some (.inr (3, b)), some (.inl (nI c))], [.inl ((M (b + 3 + 32 * (c - 1)) 0) + (M b 1))])) [oz 0, oz 0, oz 0, oz 0, oz 0, oz 0, oz (c - 1), oz 0, oz 0, oz 0, oz 0, oz 0] rfl ⟨h1, trivial, trivial, trivial, trivial, trivial, ⟨nI_m1 (nI_gt0 k4), (show c - 1 < 3 from by omega)⟩, trivial, trivial, trivial, trivial, trivial, trivial⟩ ?_
    have x5 : f_Yd_floorOf (yv b M) c = (cr ((yv b M)) (c - 1) 0) + (sc ((yv b M)) 1) := by
      unfold f_Yd_floorOf
      rw [if_neg k4]
    exact wend ⟨_, rfl, rfl⟩ (congrArg (fun q => (some q, M)) x5.symm)
def f_Yd_ceilingOf (A : ya) (c : Nat) : Int32 := (if (sc (A) 0) ≤ ((nI c) + 1) then 200 else (cr (A) (c + 1) 0) - (sc (A) 1))
set_option maxRecDepth 20000 in
set_option maxHeartbeats 1000000 in
theorem sm_Yd_ceilingOf {d b : Nat} {M : mm_M} {c : Nat} {n : Nat} (hc : c < 3) (hn : ynn (yv b M) n) : ct_Sem (d + 1) 22 M [.inr (3, b), .inl (nI c)] (some (f_Yd_ceilingOf (yv b M) c), M) := by
  refine SM_of (Nat.le_of_ble_eq_true rfl) ?_
  show mm_Wp pg_Yd_ceilingOf rt_Yd_ceilingOf (ct_Sem (d + 0)) (M, 0, [some (.inr (3, b)), some (.inl (nI c))], []) _
  refine wgo (g' := (M, 7, [some (.inr (3, b)), some (.inl (nI c))], [.inl (M b 0), .inl ((nI c) + 1)])) [oz 0, oz 0, oz 0, oz 0, oz 0] rfl ⟨trivial, trivial, trivial, trivial, trivial, trivial⟩ ?_
  by_cases h1 : (M b 0) ≤ ((nI c) + 1)
  · have k2 : (sc ((yv b M)) 0) ≤ ((nI c) + 1) := by
      have q : (sc (yv b M) 0) ≤ ((nI c) + 1) := h1
      exact q
    refine wgo (g' := (M, 32, [some (.inr (3, b)), some (.inl (nI c))], [.inl 200])) [oz 1, oz 0] rfl ⟨h1, trivial, trivial⟩ ?_
    have x3 : f_Yd_ceilingOf (yv b M) c = 200 := by
      unfold f_Yd_ceilingOf
      rw [if_pos k2]
    exact wend ⟨_, rfl, rfl⟩ (congrArg (fun q => (some q, M)) x3.symm)
  · have k4 : ¬ ((sc ((yv b M)) 0) ≤ ((nI c) + 1)) := by
      have q : ¬ ((sc (yv b M) 0) ≤ ((nI c) + 1)) := h1
      exact q
    refine wgo (g' := (M, 32, [some (.inr (3, b)), some (.inl (nI c))], [.inl ((M (b + 3 + 32 * (c + 1)) 0) - (M b 1))])) [oz 0, oz 0, oz 0, oz 0, oz 0, oz 0, oz (c + 1), oz 0, oz 0, oz 0, oz 0, oz 0] rfl ⟨h1, trivial, trivial, trivial, trivial, trivial, ⟨nI_1 c, Nat.lt_of_lt_of_le (nI_lt1 hn.1 hn.2 hc k4) hn.2⟩, trivial, trivial, trivial, trivial, trivial, trivial⟩ ?_
    have x5 : f_Yd_ceilingOf (yv b M) c = (cr ((yv b M)) (c + 1) 0) - (sc ((yv b M)) 1) := by
      unfold f_Yd_ceilingOf
      rw [if_neg k4]
    exact wend ⟨_, rfl, rfl⟩ (congrArg (fun q => (some q, M)) x5.symm)
def f_Yd_hasRoom (A : ya) (c : Nat) (p : Int32) : Int32 := f_Ct_within p (f_Yd_floorOf (A) c) (f_Yd_ceilingOf (A) c)
set_option maxRecDepth 20000 in
set_option maxHeartbeats 1000000 in
theorem sm_Yd_hasRoom {d b : Nat} {M : mm_M} {c : Nat} {p : Int32} {n : Nat} (hc : c < 3) (hn : ynn (yv b M) n) : ct_Sem (d + 2) 23 M [.inr (3, b), .inl (nI c), .inl p] (some (f_Yd_hasRoom (yv b M) c p), M) := by
  refine SM_of (Nat.le_of_ble_eq_true rfl) ?_
  show mm_Wp pg_Yd_hasRoom rt_Yd_hasRoom (ct_Sem (d + 1)) (M, 0, [some (.inr (3, b)), some (.inl (nI c)), some (.inl p)], []) _
  refine wgo (g' := (M, 3, [some (.inr (3, b)), some (.inl (nI c)), some (.inl p)], [.inl (nI c), .inr (3, b), .inl p])) [oz 0, oz 0, oz 0] rfl ⟨trivial, trivial, trivial, trivial⟩ ?_
  have s1 := sm_Yd_floorOf (d := d) (b := b) (M := M) (c := c) hc
  refine wgo (g' := (M, 8, [some (.inr (3, b)), some (.inl (nI c)), some (.inl p)], [.inl (nI c), .inr (3, b), .inl (f_Yd_floorOf (yv b M) c), .inl p])) [oc (some (f_Yd_floorOf (yv b M) c), M), oz 0, oz 0] rfl ⟨⟨s1, Nat.le_of_ble_eq_true rfl, Nat.le_of_ble_eq_true rfl, ⟨_, rfl⟩⟩, trivial, trivial, trivial⟩ ?_
  have s2 := sm_Yd_ceilingOf (d := d) (b := b) (M := M) (c := c) hc hn
  refine wgo (g' := (M, 11, [some (.inr (3, b)), some (.inl (nI c)), some (.inl p)], [.inl (f_Yd_ceilingOf (yv b M) c), .inl (f_Yd_floorOf (yv b M) c), .inl p])) [oc (some (f_Yd_ceilingOf (yv b M) c), M)] rfl ⟨⟨s2, Nat.le_of_ble_eq_true rfl, Nat.le_of_ble_eq_true rfl, ⟨_, rfl⟩⟩, trivial⟩ ?_
  have s3 := sm_Ct_within (d := d)  (M := M) (v := p) (a := f_Yd_floorOf (yv b M) c) (e := f_Yd_ceilingOf (yv b M) c) 
  refine wgo (g' := (M, 14, [some (.inr (3, b)), some (.inl (nI c)), some (.inl p)], [.inl (f_Ct_within p (f_Yd_floorOf (yv b M) c) (f_Yd_ceilingOf (yv b M) c))])) [oc (some (f_Ct_within p (f_Yd_floorOf (yv b M) c) (f_Yd_ceilingOf (yv b M) c)), M)] rfl ⟨⟨s3, Nat.le_of_ble_eq_true rfl, Nat.le_of_ble_eq_true rfl, trivial⟩, trivial⟩ ?_
  have x4 : f_Yd_hasRoom (yv b M) c p = f_Ct_within p (f_Yd_floorOf ((yv b M)) c) (f_Yd_ceilingOf ((yv b M)) c) := by
    unfold f_Yd_hasRoom
    rfl
  exact wend ⟨_, rfl, rfl, f_in01 _ _ _⟩ (congrArg (fun q => (some q, M)) x4.symm)
def f_Yd_placeOutOfTheWay (A : ya) (c : Nat) : Int32 := (if (nI c) ≤ 0 then (if (sc (A) 0) ≤ ((nI c) + 1) then cr (A) c 0 else (if (f_Cr_hasGoal (A) (c + 1)) = 0 then cr (A) c 0 else (if ((cr (A) c 0) + (sc (A) 1)) ≤ (cr (A) (c + 1) 6) then cr (A) c 0 else if ((cr (A) (c + 1) 6) - (sc (A) 1)) < (cr (A) c 1) then (cr (A) c 1) else ((cr (A) (c + 1) 6) - (sc (A) 1))))) else (if (f_Cr_hasGoal (A) (c - 1)) = 0 then (if (sc (A) 0) ≤ ((nI c) + 1) then cr (A) c 0 else (if (f_Cr_hasGoal (A) (c + 1)) = 0 then cr (A) c 0 else (if ((cr (A) c 0) + (sc (A) 1)) ≤ (cr (A) (c + 1) 6) then cr (A) c 0 else if ((cr (A) (c + 1) 6) - (sc (A) 1)) < (cr (A) c 1) then (cr (A) c 1) else ((cr (A) (c + 1) 6) - (sc (A) 1))))) else (if (cr (A) (c - 1) 6) ≤ ((cr (A) c 0) - (sc (A) 1)) then (if (sc (A) 0) ≤ ((nI c) + 1) then cr (A) c 0 else (if (f_Cr_hasGoal (A) (c + 1)) = 0 then cr (A) c 0 else (if ((cr (A) c 0) + (sc (A) 1)) ≤ (cr (A) (c + 1) 6) then cr (A) c 0 else if ((cr (A) (c + 1) 6) - (sc (A) 1)) < (cr (A) c 1) then (cr (A) c 1) else ((cr (A) (c + 1) 6) - (sc (A) 1))))) else if (cr (A) c 2) < ((cr (A) (c - 1) 6) + (sc (A) 1)) then (cr (A) c 2) else ((cr (A) (c - 1) 6) + (sc (A) 1)))))
set_option maxRecDepth 20000 in
set_option maxHeartbeats 1000000 in
theorem sm_Yd_placeOutOfTheWay {d b : Nat} {M : mm_M} {c : Nat} {n : Nat} (hc : c < 3) (hn : ynn (yv b M) n) : ct_Sem (d + 2) 30 M [.inr (3, b), .inl (nI c)] (some (f_Yd_placeOutOfTheWay (yv b M) c), M) := by
  refine SM_of (Nat.le_of_ble_eq_true rfl) ?_
  show mm_Wp pg_Yd_placeOutOfTheWay rt_Yd_placeOutOfTheWay (ct_Sem (d + 1)) (M, 0, [some (.inr (3, b)), some (.inl (nI c)), none], []) _
  refine wgo (g' := (M, 8, [some (.inr (3, b)), some (.inl (nI c)), some (.inr (0, b + 3 + 32 * c))], [.inl (nI c)])) [oz 0, oz 0, oz 0, oz c, oz 0, oz 0] rfl ⟨trivial, trivial, trivial, ⟨rfl, (show c < 3 from by omega)⟩, Nat.le_of_ble_eq_true rfl, trivial, trivial⟩ ?_
  by_cases h1 : (nI c) ≤ 0
  · have k2 : (nI c) ≤ 0 := by
      have q : (nI c) ≤ 0 := h1
      exact q
    refine wgo (g' := (M, 79, [some (.inr (3, b)), some (.inl (nI c)), some (.inr (0, b + 3 + 32 * c))], [.inl (M b 0), .inl ((nI c) + 1)])) [oz 1, oz 0, oz 0, oz 0, oz 0, oz 0] rfl ⟨h1, trivial, trivial, trivial, trivial, trivial, trivial⟩ ?_
    by_cases h3 : (M b 0) ≤ ((nI c) + 1)
    · have k4 : (sc ((yv b M)) 0) ≤ ((nI c) + 1) := by
        have q : (sc (yv b M) 0) ≤ ((nI c) + 1) := h3
        exact q
      refine wgo (g' := (M, 147, [some (.inr (3, b)), some (.inl (nI c)), some (.inr (0, b + 3 + 32 * c))], [.inl (M (b + 3 + 32 * c) 0)])) [oz 1, oz 0, oz 0] rfl ⟨h3, trivial, trivial, trivial⟩ ?_
      have x5 : f_Yd_placeOutOfTheWay (yv b M) c = cr ((yv b M)) c 0 := by
        unfold f_Yd_placeOutOfTheWay
        rw [if_pos k2, if_pos k4]
      exact wend ⟨_, rfl, rfl⟩ (congrArg (fun q => (some q, M)) x5.symm)
    · have k6 : ¬ ((sc ((yv b M)) 0) ≤ ((nI c) + 1)) := by
        have q : ¬ ((sc (yv b M) 0) ≤ ((nI c) + 1)) := h3
        exact q
      refine wgo (g' := (M, 90, [some (.inr (3, b)), some (.inl (nI c)), some (.inr (0, b + 3 + 32 * c))], [.inr (0, b + 3 + 32 * (c + 1))])) [oz 0, oz 0, oz 0, oz 0, oz 0, oz 0, oz (c + 1)] rfl ⟨h3, trivial, trivial, trivial, trivial, trivial, ⟨nI_1 c, Nat.lt_of_lt_of_le (nI_lt1 hn.1 hn.2 hc k6) hn.2⟩, trivial⟩ ?_
      have s7 := sm_Cr_hasGoal (d := d) (b := b) (M := M) (c := c + 1) 
      refine wgo (g' := (M, 93, [some (.inr (3, b)), some (.inl (nI c)), some (.inr (0, b + 3 + 32 * c))], [.inl (f_Cr_hasGoal (yv b M) (c + 1))])) [oc (some (f_Cr_hasGoal (yv b M) (c + 1)), M)] rfl ⟨⟨s7, Nat.le_of_ble_eq_true rfl, Nat.le_of_ble_eq_true rfl, ⟨_, rfl⟩⟩, trivial⟩ ?_
      by_cases h8 : (f_Cr_hasGoal (yv b M) (c + 1)) = 0
      · have k9 : (f_Cr_hasGoal ((yv b M)) (c + 1)) = 0 := by
          have q : (f_Cr_hasGoal (yv b M) (c + 1)) = 0 := h8
          exact q
        refine wgo (g' := (M, 147, [some (.inr (3, b)), some (.inl (nI c)), some (.inr (0, b + 3 + 32 * c))], [.inl (M (b + 3 + 32 * c) 0)])) [oz 1, oz 0, oz 0] rfl ⟨h8, trivial, trivial, trivial⟩ ?_
        have x10 : f_Yd_placeOutOfTheWay (yv b M) c = cr ((yv b M)) c 0 := by
          unfold f_Yd_placeOutOfTheWay
          rw [if_pos k2, if_neg k6, if_pos k9]
        exact wend ⟨_, rfl, rfl⟩ (congrArg (fun q => (some q, M)) x10.symm)
      · have k11 : ¬ ((f_Cr_hasGoal ((yv b M)) (c + 1)) = 0) := by
          have q : ¬ ((f_Cr_hasGoal (yv b M) (c + 1)) = 0) := h8
          exact q
        refine wgo (g' := (M, 116, [some (.inr (3, b)), some (.inl (nI c)), some (.inr (0, b + 3 + 32 * c))], [.inl ((M (b + 3 + 32 * c) 0) + (M b 1)), .inl (M (b + 3 + 32 * (c + 1)) 6)])) [oz 0, oz 0, oz 0, oz 0, oz 0, oz 0, oz (c + 1), oz 0, oz 0, oz 0, oz 0, oz 0, oz 0] rfl ⟨h8, trivial, trivial, trivial, trivial, trivial, ⟨nI_1 c, Nat.lt_of_lt_of_le (nI_lt1 hn.1 hn.2 hc k6) hn.2⟩, trivial, trivial, trivial, trivial, trivial, trivial, trivial⟩ ?_
        by_cases h12 : ((M (b + 3 + 32 * c) 0) + (M b 1)) ≤ (M (b + 3 + 32 * (c + 1)) 6)
        · have k13 : ((cr ((yv b M)) c 0) + (sc ((yv b M)) 1)) ≤ (cr ((yv b M)) (c + 1) 6) := by
            have q : ((cr (yv b M) c 0) + (sc (yv b M) 1)) ≤ (cr (yv b M) (c + 1) 6) := h12
            exact q
          refine wgo (g' := (M, 147, [some (.inr (3, b)), some (.inl (nI c)), some (.inr (0, b + 3 + 32 * c))], [.inl (M (b + 3 + 32 * c) 0)])) [oz 1, oz 0, oz 0] rfl ⟨h12, trivial, trivial, trivial⟩ ?_
          have x14 : f_Yd_placeOutOfTheWay (yv b M) c = cr ((yv b M)) c 0 := by
            unfold f_Yd_placeOutOfTheWay
            rw [if_pos k2, if_neg k6, if_neg k11, if_pos k13]
          exact wend ⟨_, rfl, rfl⟩ (congrArg (fun q => (some q, M)) x14.symm)
        · have k15 : ¬ (((cr ((yv b M)) c 0) + (sc ((yv b M)) 1)) ≤ (cr ((yv b M)) (c + 1) 6)) := by
            have q : ¬ (((cr (yv b M) c 0) + (sc (yv b M) 1)) ≤ (cr (yv b M) (c + 1) 6)) := h12
            exact q
          refine wgo (g' := (M, 142, [some (.inr (3, b)), some (.inl (nI c)), some (.inr (0, b + 3 + 32 * c))], [.inl (if ((M (b + 3 + 32 * (c + 1)) 6) - (M b 1)) < (M (b + 3 + 32 * c) 1) then (M (b + 3 + 32 * c) 1) else ((M (b + 3 + 32 * (c + 1)) 6) - (M b 1)))])) [oz 0, oz 0, oz 0, oz 0, oz 0, oz 0, oz (c + 1), oz 0, oz 0, oz 0, oz 0, oz 0, oz 0, oz 0] rfl ⟨h12, trivial, trivial, trivial, trivial, trivial, ⟨nI_1 c, Nat.lt_of_lt_of_le (nI_lt1 hn.1 hn.2 hc k6) hn.2⟩, trivial, trivial, trivial, trivial, trivial, trivial, Nat.le_of_ble_eq_true rfl, trivial⟩ ?_
          have x16 : f_Yd_placeOutOfTheWay (yv b M) c = if ((cr ((yv b M)) (c + 1) 6) - (sc ((yv b M)) 1)) < (cr ((yv b M)) c 1) then (cr ((yv b M)) c 1) else ((cr ((yv b M)) (c + 1) 6) - (sc ((yv b M)) 1)) := by
            unfold f_Yd_placeOutOfTheWay
            rw [if_pos k2, if_neg k6, if_neg k11, if_neg k15]
          exact wend ⟨_, rfl, rfl⟩ (congrArg (fun q => (some q, M)) x16.symm)
  · have k17 : ¬ ((nI c) ≤ 0) := by
      have q : ¬ ((nI c) ≤ 0) := h1
      exact q
    refine wgo (g' := (M, 19, [some (.inr (3, b)), some (.inl (nI c)), some (.inr (0, b + 3 + 32 * c))], [.inr (0, b + 3 + 32 * (c - 1))])) [oz 0, oz 0, oz 0, oz 0, oz 0, oz 0, oz (c - 1)] rfl ⟨h1, trivial, trivial, trivial, trivial, trivial, ⟨nI_m1 (nI_gt0 k17), (show c - 1 < 3 from by omega)⟩, trivial⟩ ?_
    have s18 := sm_Cr_hasGoal (d := d) (b := b) (M := M) (c := c - 1) 
    refine wgo (g' := (M, 22, [some (.inr (3, b)), some (.inl (nI c)), some (.inr (0, b + 3 + 32 * c))], [.inl (f_Cr_hasGoal (yv b M) (c - 1))])) [oc (some (f_Cr_hasGoal (yv b M) (c - 1)), M)] rfl ⟨⟨s18, Nat.le_of_ble_eq_true rfl, Nat.le_of_ble_eq_true rfl, ⟨_, rfl⟩⟩, trivial⟩ ?_
    by_cases h19 : (f_Cr_hasGoal (yv b M) (c - 1)) = 0
    · have k20 : (f_Cr_hasGoal ((yv b M)) (c - 1)) = 0 := by
        have q : (f_Cr_hasGoal (yv b M) (c - 1)) = 0 := h19
        exact q
      refine wgo (g' := (M, 79, [some (.inr (3, b)), some (.inl (nI c)), some (.inr (0, b + 3 + 32 * c))], [.inl (M b 0), .inl ((nI c) + 1)])) [oz 1, oz 0, oz 0, oz 0, oz 0, oz 0] rfl ⟨h19, trivial, trivial, trivial, trivial, trivial, trivial⟩ ?_
      by_cases h21 : (M b 0) ≤ ((nI c) + 1)
      · have k22 : (sc ((yv b M)) 0) ≤ ((nI c) + 1) := by
          have q : (sc (yv b M) 0) ≤ ((nI c) + 1) := h21
          exact q
        refine wgo (g' := (M, 147, [some (.inr (3, b)), some (.inl (nI c)), some (.inr (0, b + 3 + 32 * c))], [.inl (M (b + 3 + 32 * c) 0)])) [oz 1, oz 0, oz 0] rfl ⟨h21, trivial, trivial, trivial⟩ ?_
        have x23 : f_Yd_placeOutOfTheWay (yv b M) c = cr ((yv b M)) c 0 := by
          unfold f_Yd_placeOutOfTheWay
          rw [if_neg k17, if_pos k20, if_pos k22]
        exact wend ⟨_, rfl, rfl⟩ (congrArg (fun q => (some q, M)) x23.symm)
      · have k24 : ¬ ((sc ((yv b M)) 0) ≤ ((nI c) + 1)) := by
          have q : ¬ ((sc (yv b M) 0) ≤ ((nI c) + 1)) := h21
          exact q
        refine wgo (g' := (M, 90, [some (.inr (3, b)), some (.inl (nI c)), some (.inr (0, b + 3 + 32 * c))], [.inr (0, b + 3 + 32 * (c + 1))])) [oz 0, oz 0, oz 0, oz 0, oz 0, oz 0, oz (c + 1)] rfl ⟨h21, trivial, trivial, trivial, trivial, trivial, ⟨nI_1 c, Nat.lt_of_lt_of_le (nI_lt1 hn.1 hn.2 hc k24) hn.2⟩, trivial⟩ ?_
        have s25 := sm_Cr_hasGoal (d := d) (b := b) (M := M) (c := c + 1) 
        refine wgo (g' := (M, 93, [some (.inr (3, b)), some (.inl (nI c)), some (.inr (0, b + 3 + 32 * c))], [.inl (f_Cr_hasGoal (yv b M) (c + 1))])) [oc (some (f_Cr_hasGoal (yv b M) (c + 1)), M)] rfl ⟨⟨s25, Nat.le_of_ble_eq_true rfl, Nat.le_of_ble_eq_true rfl, ⟨_, rfl⟩⟩, trivial⟩ ?_
        by_cases h26 : (f_Cr_hasGoal (yv b M) (c + 1)) = 0
        · have k27 : (f_Cr_hasGoal ((yv b M)) (c + 1)) = 0 := by
            have q : (f_Cr_hasGoal (yv b M) (c + 1)) = 0 := h26
            exact q
          refine wgo (g' := (M, 147, [some (.inr (3, b)), some (.inl (nI c)), some (.inr (0, b + 3 + 32 * c))], [.inl (M (b + 3 + 32 * c) 0)])) [oz 1, oz 0, oz 0] rfl ⟨h26, trivial, trivial, trivial⟩ ?_
          have x28 : f_Yd_placeOutOfTheWay (yv b M) c = cr ((yv b M)) c 0 := by
            unfold f_Yd_placeOutOfTheWay
            rw [if_neg k17, if_pos k20, if_neg k24, if_pos k27]
          exact wend ⟨_, rfl, rfl⟩ (congrArg (fun q => (some q, M)) x28.symm)
        · have k29 : ¬ ((f_Cr_hasGoal ((yv b M)) (c + 1)) = 0) := by
            have q : ¬ ((f_Cr_hasGoal (yv b M) (c + 1)) = 0) := h26
            exact q
          refine wgo (g' := (M, 116, [some (.inr (3, b)), some (.inl (nI c)), some (.inr (0, b + 3 + 32 * c))], [.inl ((M (b + 3 + 32 * c) 0) + (M b 1)), .inl (M (b + 3 + 32 * (c + 1)) 6)])) [oz 0, oz 0, oz 0, oz 0, oz 0, oz 0, oz (c + 1), oz 0, oz 0, oz 0, oz 0, oz 0, oz 0] rfl ⟨h26, trivial, trivial, trivial, trivial, trivial, ⟨nI_1 c, Nat.lt_of_lt_of_le (nI_lt1 hn.1 hn.2 hc k24) hn.2⟩, trivial, trivial, trivial, trivial, trivial, trivial, trivial⟩ ?_
          by_cases h30 : ((M (b + 3 + 32 * c) 0) + (M b 1)) ≤ (M (b + 3 + 32 * (c + 1)) 6)
          · have k31 : ((cr ((yv b M)) c 0) + (sc ((yv b M)) 1)) ≤ (cr ((yv b M)) (c + 1) 6) := by
              have q : ((cr (yv b M) c 0) + (sc (yv b M) 1)) ≤ (cr (yv b M) (c + 1) 6) := h30
              exact q
            refine wgo (g' := (M, 147, [some (.inr (3, b)), some (.inl (nI c)), some (.inr (0, b + 3 + 32 * c))], [.inl (M (b + 3 + 32 * c) 0)])) [oz 1, oz 0, oz 0] rfl ⟨h30, trivial, trivial, trivial⟩ ?_
            have x32 : f_Yd_placeOutOfTheWay (yv b M) c = cr ((yv b M)) c 0 := by
              unfold f_Yd_placeOutOfTheWay
              rw [if_neg k17, if_pos k20, if_neg k24, if_neg k29, if_pos k31]
            exact wend ⟨_, rfl, rfl⟩ (congrArg (fun q => (some q, M)) x32.symm)
          · have k33 : ¬ (((cr ((yv b M)) c 0) + (sc ((yv b M)) 1)) ≤ (cr ((yv b M)) (c + 1) 6)) := by
              have q : ¬ (((cr (yv b M) c 0) + (sc (yv b M) 1)) ≤ (cr (yv b M) (c + 1) 6)) := h30
              exact q
            refine wgo (g' := (M, 142, [some (.inr (3, b)), some (.inl (nI c)), some (.inr (0, b + 3 + 32 * c))], [.inl (if ((M (b + 3 + 32 * (c + 1)) 6) - (M b 1)) < (M (b + 3 + 32 * c) 1) then (M (b + 3 + 32 * c) 1) else ((M (b + 3 + 32 * (c + 1)) 6) - (M b 1)))])) [oz 0, oz 0, oz 0, oz 0, oz 0, oz 0, oz (c + 1), oz 0, oz 0, oz 0, oz 0, oz 0, oz 0, oz 0] rfl ⟨h30, trivial, trivial, trivial, trivial, trivial, ⟨nI_1 c, Nat.lt_of_lt_of_le (nI_lt1 hn.1 hn.2 hc k24) hn.2⟩, trivial, trivial, trivial, trivial, trivial, trivial, Nat.le_of_ble_eq_true rfl, trivial⟩ ?_
            have x34 : f_Yd_placeOutOfTheWay (yv b M) c = if ((cr ((yv b M)) (c + 1) 6) - (sc ((yv b M)) 1)) < (cr ((yv b M)) c 1) then (cr ((yv b M)) c 1) else ((cr ((yv b M)) (c + 1) 6) - (sc ((yv b M)) 1)) := by
              unfold f_Yd_placeOutOfTheWay
              rw [if_neg k17, if_pos k20, if_neg k24, if_neg k29, if_neg k33]
            exact wend ⟨_, rfl, rfl⟩ (congrArg (fun q => (some q, M)) x34.symm)
    · have k35 : ¬ ((f_Cr_hasGoal ((yv b M)) (c - 1)) = 0) := by
        have q : ¬ ((f_Cr_hasGoal (yv b M) (c - 1)) = 0) := h19
        exact q
      refine wgo (g' := (M, 45, [some (.inr (3, b)), some (.inl (nI c)), some (.inr (0, b + 3 + 32 * c))], [.inl ((M (b + 3 + 32 * c) 0) - (M b 1)), .inl (M (b + 3 + 32 * (c - 1)) 6)])) [oz 0, oz 0, oz 0, oz 0, oz 0, oz 0, oz (c - 1), oz 0, oz 0, oz 0, oz 0, oz 0, oz 0] rfl ⟨h19, trivial, trivial, trivial, trivial, trivial, ⟨nI_m1 (nI_gt0 k17), (show c - 1 < 3 from by omega)⟩, trivial, trivial, trivial, trivial, trivial, trivial, trivial⟩ ?_
      by_cases h36 : (M (b + 3 + 32 * (c - 1)) 6) ≤ ((M (b + 3 + 32 * c) 0) - (M b 1))
      · have k37 : (cr ((yv b M)) (c - 1) 6) ≤ ((cr ((yv b M)) c 0) - (sc ((yv b M)) 1)) := by
          have q : (cr (yv b M) (c - 1) 6) ≤ ((cr (yv b M) c 0) - (sc (yv b M) 1)) := h36
          exact q
        refine wgo (g' := (M, 79, [some (.inr (3, b)), some (.inl (nI c)), some (.inr (0, b + 3 + 32 * c))], [.inl (M b 0), .inl ((nI c) + 1)])) [oz 1, oz 0, oz 0, oz 0, oz 0, oz 0] rfl ⟨h36, trivial, trivial, trivial, trivial, trivial, trivial⟩ ?_
        by_cases h38 : (M b 0) ≤ ((nI c) + 1)
        · have k39 : (sc ((yv b M)) 0) ≤ ((nI c) + 1) := by
            have q : (sc (yv b M) 0) ≤ ((nI c) + 1) := h38
            exact q
          refine wgo (g' := (M, 147, [some (.inr (3, b)), some (.inl (nI c)), some (.inr (0, b + 3 + 32 * c))], [.inl (M (b + 3 + 32 * c) 0)])) [oz 1, oz 0, oz 0] rfl ⟨h38, trivial, trivial, trivial⟩ ?_
          have x40 : f_Yd_placeOutOfTheWay (yv b M) c = cr ((yv b M)) c 0 := by
            unfold f_Yd_placeOutOfTheWay
            rw [if_neg k17, if_neg k35, if_pos k37, if_pos k39]
          exact wend ⟨_, rfl, rfl⟩ (congrArg (fun q => (some q, M)) x40.symm)
        · have k41 : ¬ ((sc ((yv b M)) 0) ≤ ((nI c) + 1)) := by
            have q : ¬ ((sc (yv b M) 0) ≤ ((nI c) + 1)) := h38
            exact q
          refine wgo (g' := (M, 90, [some (.inr (3, b)), some (.inl (nI c)), some (.inr (0, b + 3 + 32 * c))], [.inr (0, b + 3 + 32 * (c + 1))])) [oz 0, oz 0, oz 0, oz 0, oz 0, oz 0, oz (c + 1)] rfl ⟨h38, trivial, trivial, trivial, trivial, trivial, ⟨nI_1 c, Nat.lt_of_lt_of_le (nI_lt1 hn.1 hn.2 hc k41) hn.2⟩, trivial⟩ ?_
          have s42 := sm_Cr_hasGoal (d := d) (b := b) (M := M) (c := c + 1) 
          refine wgo (g' := (M, 93, [some (.inr (3, b)), some (.inl (nI c)), some (.inr (0, b + 3 + 32 * c))], [.inl (f_Cr_hasGoal (yv b M) (c + 1))])) [oc (some (f_Cr_hasGoal (yv b M) (c + 1)), M)] rfl ⟨⟨s42, Nat.le_of_ble_eq_true rfl, Nat.le_of_ble_eq_true rfl, ⟨_, rfl⟩⟩, trivial⟩ ?_
          by_cases h43 : (f_Cr_hasGoal (yv b M) (c + 1)) = 0
          · have k44 : (f_Cr_hasGoal ((yv b M)) (c + 1)) = 0 := by
              have q : (f_Cr_hasGoal (yv b M) (c + 1)) = 0 := h43
              exact q
            refine wgo (g' := (M, 147, [some (.inr (3, b)), some (.inl (nI c)), some (.inr (0, b + 3 + 32 * c))], [.inl (M (b + 3 + 32 * c) 0)])) [oz 1, oz 0, oz 0] rfl ⟨h43, trivial, trivial, trivial⟩ ?_
            have x45 : f_Yd_placeOutOfTheWay (yv b M) c = cr ((yv b M)) c 0 := by
              unfold f_Yd_placeOutOfTheWay
              rw [if_neg k17, if_neg k35, if_pos k37, if_neg k41, if_pos k44]
            exact wend ⟨_, rfl, rfl⟩ (congrArg (fun q => (some q, M)) x45.symm)
          · have k46 : ¬ ((f_Cr_hasGoal ((yv b M)) (c + 1)) = 0) := by
              have q : ¬ ((f_Cr_hasGoal (yv b M) (c + 1)) = 0) := h43
              exact q
            refine wgo (g' := (M, 116, [some (.inr (3, b)), some (.inl (nI c)), some (.inr (0, b + 3 + 32 * c))], [.inl ((M (b + 3 + 32 * c) 0) + (M b 1)), .inl (M (b + 3 + 32 * (c + 1)) 6)])) [oz 0, oz 0, oz 0, oz 0, oz 0, oz 0, oz (c + 1), oz 0, oz 0, oz 0, oz 0, oz 0, oz 0] rfl ⟨h43, trivial, trivial, trivial, trivial, trivial, ⟨nI_1 c, Nat.lt_of_lt_of_le (nI_lt1 hn.1 hn.2 hc k41) hn.2⟩, trivial, trivial, trivial, trivial, trivial, trivial, trivial⟩ ?_
            by_cases h47 : ((M (b + 3 + 32 * c) 0) + (M b 1)) ≤ (M (b + 3 + 32 * (c + 1)) 6)
            · have k48 : ((cr ((yv b M)) c 0) + (sc ((yv b M)) 1)) ≤ (cr ((yv b M)) (c + 1) 6) := by
                have q : ((cr (yv b M) c 0) + (sc (yv b M) 1)) ≤ (cr (yv b M) (c + 1) 6) := h47
                exact q
              refine wgo (g' := (M, 147, [some (.inr (3, b)), some (.inl (nI c)), some (.inr (0, b + 3 + 32 * c))], [.inl (M (b + 3 + 32 * c) 0)])) [oz 1, oz 0, oz 0] rfl ⟨h47, trivial, trivial, trivial⟩ ?_
              have x49 : f_Yd_placeOutOfTheWay (yv b M) c = cr ((yv b M)) c 0 := by
                unfold f_Yd_placeOutOfTheWay
                rw [if_neg k17, if_neg k35, if_pos k37, if_neg k41, if_neg k46, if_pos k48]
              exact wend ⟨_, rfl, rfl⟩ (congrArg (fun q => (some q, M)) x49.symm)
            · have k50 : ¬ (((cr ((yv b M)) c 0) + (sc ((yv b M)) 1)) ≤ (cr ((yv b M)) (c + 1) 6)) := by
                have q : ¬ (((cr (yv b M) c 0) + (sc (yv b M) 1)) ≤ (cr (yv b M) (c + 1) 6)) := h47
                exact q
              refine wgo (g' := (M, 142, [some (.inr (3, b)), some (.inl (nI c)), some (.inr (0, b + 3 + 32 * c))], [.inl (if ((M (b + 3 + 32 * (c + 1)) 6) - (M b 1)) < (M (b + 3 + 32 * c) 1) then (M (b + 3 + 32 * c) 1) else ((M (b + 3 + 32 * (c + 1)) 6) - (M b 1)))])) [oz 0, oz 0, oz 0, oz 0, oz 0, oz 0, oz (c + 1), oz 0, oz 0, oz 0, oz 0, oz 0, oz 0, oz 0] rfl ⟨h47, trivial, trivial, trivial, trivial, trivial, ⟨nI_1 c, Nat.lt_of_lt_of_le (nI_lt1 hn.1 hn.2 hc k41) hn.2⟩, trivial, trivial, trivial, trivial, trivial, trivial, Nat.le_of_ble_eq_true rfl, trivial⟩ ?_
              have x51 : f_Yd_placeOutOfTheWay (yv b M) c = if ((cr ((yv b M)) (c + 1) 6) - (sc ((yv b M)) 1)) < (cr ((yv b M)) c 1) then (cr ((yv b M)) c 1) else ((cr ((yv b M)) (c + 1) 6) - (sc ((yv b M)) 1)) := by
                unfold f_Yd_placeOutOfTheWay
                rw [if_neg k17, if_neg k35, if_pos k37, if_neg k41, if_neg k46, if_neg k50]
              exact wend ⟨_, rfl, rfl⟩ (congrArg (fun q => (some q, M)) x51.symm)
      · have k52 : ¬ ((cr ((yv b M)) (c - 1) 6) ≤ ((cr ((yv b M)) c 0) - (sc ((yv b M)) 1))) := by
          have q : ¬ ((cr (yv b M) (c - 1) 6) ≤ ((cr (yv b M) c 0) - (sc (yv b M) 1))) := h36
          exact q
        refine wgo (g' := (M, 71, [some (.inr (3, b)), some (.inl (nI c)), some (.inr (0, b + 3 + 32 * c))], [.inl (if (M (b + 3 + 32 * c) 2) < ((M (b + 3 + 32 * (c - 1)) 6) + (M b 1)) then (M (b + 3 + 32 * c) 2) else ((M (b + 3 + 32 * (c - 1)) 6) + (M b 1)))])) [oz 0, oz 0, oz 0, oz 0, oz 0, oz 0, oz (c - 1), oz 0, oz 0, oz 0, oz 0, oz 0, oz 0, oz 0] rfl ⟨h36, trivial, trivial, trivial, trivial, trivial, ⟨nI_m1 (nI_gt0 k17), (show c - 1 < 3 from by omega)⟩, trivial, trivial, trivial, trivial, trivial, trivial, Nat.le_of_ble_eq_true rfl, trivial⟩ ?_
        have x53 : f_Yd_placeOutOfTheWay (yv b M) c = if (cr ((yv b M)) c 2) < ((cr ((yv b M)) (c - 1) 6) + (sc ((yv b M)) 1)) then (cr ((yv b M)) c 2) else ((cr ((yv b M)) (c - 1) 6) + (sc ((yv b M)) 1)) := by
          unfold f_Yd_placeOutOfTheWay
          rw [if_neg k17, if_neg k35, if_neg k52]
        exact wend ⟨_, rfl, rfl⟩ (congrArg (fun q => (some q, M)) x53.symm)
end
section
def f_Cr_stand (A : ya) (c : Nat) (p : Int32) (l : Int32) (g : Int32) : Int32 × ya := (0, ucr (ucr (ucr (A) c 0 p) c 1 l) c 2 g)
set_option maxRecDepth 20000 in
set_option maxHeartbeats 1000000 in
theorem ys_Cr_stand {d b : Nat} {M : mm_M} {c : Nat} {p : Int32} {l : Int32} {g : Int32} (hb : b = 8 ∨ b = 16)  : YS (d + 1) 2 b M [.inr (0, b + 3 + 32 * c), .inl p, .inl l, .inl g] (none) (f_Cr_stand (yv b M) c p l g).2 := by
  refine YS_of (Nat.le_of_ble_eq_true rfl) ?_
  show mm_Wp pg_Cr_stand rt_Cr_stand (ct_Sem (d + 0)) (M, 0, [some (.inr (0, b + 3 + 32 * c)), some (.inl p), some (.inl l), some (.inl g)], []) _
  refine wgo (g' := (mm_up M (b + 3 + 32 * c) 0 p, 5, [some (.inr (0, b + 3 + 32 * c)), some (.inl p), some (.inl l), some (.inl g)], [])) [oz 0, oz 0, oz 0] rfl ⟨trivial, trivial, trivial, trivial⟩ ?_
  generalize e2 : mm_up M (b + 3 + 32 * c) 0 p = M1
  have a3 : yv b M1 = ucr ((yv b M)) c 0 p := by
    rw [← e2]
    refine yv_cr.trans ?_
    show ucr ((yv b M)) c 0 p = _
    rfl
  have w4 : yf b M M1 := by rw [← e2]; exact yf_up yf_rf (by unfold yo; omega)
  refine wgo (g' := (mm_up M1 (b + 3 + 32 * c) 1 l, 10, [some (.inr (0, b + 3 + 32 * c)), some (.inl p), some (.inl l), some (.inl g)], [])) [oz 0, oz 0, oz 0] rfl ⟨trivial, trivial, trivial, trivial⟩ ?_
  generalize e6 : mm_up M1 (b + 3 + 32 * c) 1 l = M5
  have a7 : yv b M5 = ucr (ucr ((yv b M)) c 0 p) c 1 l := by
    rw [← e6]
    refine yv_cr.trans ?_
    show ucr ((yv b M1)) c 1 l = _
    first | rfl | simp only [a3]
  have w8 : yf b M M5 := by rw [← e6]; exact yf_up w4 (by unfold yo; omega)
  refine wgo (g' := (mm_up M5 (b + 3 + 32 * c) 2 g, 15, [some (.inr (0, b + 3 + 32 * c)), some (.inl p), some (.inl l), some (.inl g)], [])) [oz 0, oz 0, oz 0] rfl ⟨trivial, trivial, trivial, trivial⟩ ?_
  generalize e10 : mm_up M5 (b + 3 + 32 * c) 2 g = M9
  have a11 : yv b M9 = ucr (ucr (ucr ((yv b M)) c 0 p) c 1 l) c 2 g := by
    rw [← e10]
    refine yv_cr.trans ?_
    show ucr ((yv b M5)) c 2 g = _
    first | rfl | simp only [a3, a7]
  have w12 : yf b M M9 := by rw [← e10]; exact yf_up w8 (by unfold yo; omega)
  have x13 : f_Cr_stand (yv b M) c p l g = (0, ucr (ucr (ucr ((yv b M)) c 0 p) c 1 l) c 2 g) := by
    unfold f_Cr_stand
    rfl
  exact wend ⟨rfl, rfl⟩ ⟨rfl, a11.trans (congrArg Prod.snd x13).symm, w12⟩
def f_Cr_queue (A : ya) (c : Nat) (x : Int32) : Int32 × ya := (if 8 ≤ (cr (A) c 10) then (0, A) else (0, ucr (uwa (A) c (ix (cr (A) c 10)) x) c 10 ((cr (uwa (A) c (ix (cr (A) c 10)) x) c 10) + 1)))
set_option maxRecDepth 20000 in
set_option maxHeartbeats 1000000 in
theorem ys_Cr_queue {d b : Nat} {M : mm_M} {c : Nat} {x : Int32} (hb : b = 8 ∨ b = 16) (hq : ¬ 8 ≤ cr (yv b M) c 10 → okx 8 (cr (yv b M) c 10)) : YS (d + 1) 5 b M [.inr (0, b + 3 + 32 * c), .inl x] (none) (f_Cr_queue (yv b M) c x).2 := by
  refine YS_of (Nat.le_of_ble_eq_true rfl) ?_
  show mm_Wp pg_Cr_queue rt_Cr_queue (ct_Sem (d + 0)) (M, 0, [some (.inr (0, b + 3 + 32 * c)), some (.inl x)], []) _
  refine wgo (g' := (M, 6, [some (.inr (0, b + 3 + 32 * c)), some (.inl x)], [.inl 8, .inl (M (b + 3 + 32 * c) 10)])) [oz 0, oz 0, oz 0] rfl ⟨trivial, trivial, trivial, trivial⟩ ?_
  by_cases h1 : 8 ≤ (M (b + 3 + 32 * c) 10)
  · have k2 : 8 ≤ (cr ((yv b M)) c 10) := by
      have q : 8 ≤ (cr (yv b M) c 10) := h1
      exact q
    refine wgo (g' := (M, 29, [some (.inr (0, b + 3 + 32 * c)), some (.inl x)], [])) [oz 1] rfl ⟨h1, trivial⟩ ?_
    have x3 : f_Cr_queue (yv b M) c x = (0, (yv b M)) := by
      unfold f_Cr_queue
      rw [if_pos k2]
    exact wend ⟨rfl, rfl⟩ ⟨rfl, (congrArg Prod.snd x3).symm, yf_rf⟩
  · have k4 : ¬ (8 ≤ (cr ((yv b M)) c 10)) := by
      have q : ¬ (8 ≤ (cr (yv b M) c 10)) := h1
      exact q
    refine wgo (g' := (mm_up M (b + 3 + 32 * c + 2) (ix (M (b + 3 + 32 * c) 10)) x, 19, [some (.inr (0, b + 3 + 32 * c)), some (.inl x)], [])) [oz 0, oz 0, oz 0, oz 0, oz 0, oz 0, oz (ix (M (b + 3 + 32 * c) 10))] rfl ⟨h1, trivial, trivial, trivial, trivial, trivial, hq k4, trivial⟩ ?_
    generalize e6 : mm_up M (b + 3 + 32 * c + 2) (ix (M (b + 3 + 32 * c) 10)) x = M5
    have a7 : yv b M5 = uwa ((yv b M)) c (ix (cr ((yv b M)) c 10)) x := by
      rw [← e6]
      refine yv_wa.trans ?_
      show uwa ((yv b M)) c (ix (cr (yv b M) c 10)) x = _
      rfl
    have w8 : yf b M M5 := by rw [← e6]; exact yf_up yf_rf (by unfold yo; omega)
    refine wgo (g' := (mm_up M5 (b + 3 + 32 * c) 10 ((M5 (b + 3 + 32 * c) 10) + 1), 29, [some (.inr (0, b + 3 + 32 * c)), some (.inl x)], [])) [oz 0, oz 0, oz 0, oz 0, oz 0, oz 0] rfl ⟨trivial, trivial, trivial, trivial, trivial, trivial, trivial⟩ ?_
    generalize e10 : mm_up M5 (b + 3 + 32 * c) 10 ((M5 (b + 3 + 32 * c) 10) + 1) = M9
    have a11 : yv b M9 = ucr (uwa ((yv b M)) c (ix (cr ((yv b M)) c 10)) x) c 10 ((cr (uwa ((yv b M)) c (ix (cr ((yv b M)) c 10)) x) c 10) + 1) := by
      rw [← e10]
      refine yv_cr.trans ?_
      show ucr ((yv b M5)) c 10 ((cr (yv b M5) c 10) + 1) = _
      first | rfl | simp only [a7]
    have w12 : yf b M M9 := by rw [← e10]; exact yf_up w8 (by unfold yo; omega)
    have x13 : f_Cr_queue (yv b M) c x = (0, ucr (uwa ((yv b M)) c (ix (cr ((yv b M)) c 10)) x) c 10 ((cr (uwa ((yv b M)) c (ix (cr ((yv b M)) c 10)) x) c 10) + 1)) := by
      unfold f_Cr_queue
      rw [if_neg k4]
    exact wend ⟨rfl, rfl⟩ ⟨rfl, a11.trans (congrArg Prod.snd x13).symm, w12⟩
def f_Yd_handleIfThere (A : ya) (c : Nat) : Int32 × ya := (if (cr (A) c 0) = (cr (A) c 6) then (if (cr (A) c 5) = 1 then (0, ucr (ucr (A) c 5 2) c 7 (sc (ucr (A) c 5 2) 3)) else (0, ucr (ucr (A) c 5 4) c 7 (sc (ucr (A) c 5 4) 3))) else (0, A))
set_option maxRecDepth 20000 in
set_option maxHeartbeats 1000000 in
theorem ys_Yd_handleIfThere {d b : Nat} {M : mm_M} {c : Nat} (hb : b = 8 ∨ b = 16)  : YS (d + 1) 27 b M [.inr (3, b), .inr (0, b + 3 + 32 * c)] (none) (f_Yd_handleIfThere (yv b M) c).2 := by
  refine YS_of (Nat.le_of_ble_eq_true rfl) ?_
  show mm_Wp pg_Yd_handleIfThere rt_Yd_handleIfThere (ct_Sem (d + 0)) (M, 0, [some (.inr (3, b)), some (.inr (0, b + 3 + 32 * c))], []) _
  refine wgo (g' := (M, 8, [some (.inr (3, b)), some (.inr (0, b + 3 + 32 * c))], [.inl (M (b + 3 + 32 * c) 6), .inl (M (b + 3 + 32 * c) 0)])) [oz 0, oz 0, oz 0, oz 0] rfl ⟨trivial, trivial, trivial, trivial, trivial⟩ ?_
  by_cases h1 : (M (b + 3 + 32 * c) 0) = (M (b + 3 + 32 * c) 6)
  · have k2 : (cr ((yv b M)) c 0) = (cr ((yv b M)) c 6) := by
      have q : (cr (yv b M) c 0) = (cr (yv b M) c 6) := h1
      exact q
    refine wgo (g' := (M, 17, [some (.inr (3, b)), some (.inr (0, b + 3 + 32 * c))], [.inl 1, .inl (M (b + 3 + 32 * c) 5), .inr (0, b + 3 + 32 * c)])) [oz 0, oz 0, oz 0, oz 0, oz 0] rfl ⟨(fun z => z h1), trivial, trivial, trivial, trivial, trivial⟩ ?_
    by_cases h3 : (M (b + 3 + 32 * c) 5) = 1
    · have k4 : (cr ((yv b M)) c 5) = 1 := by
        have q : (cr (yv b M) c 5) = 1 := h3
        exact q
      refine wgo (g' := (mm_up M (b + 3 + 32 * c) 5 2, 28, [some (.inr (3, b)), some (.inr (0, b + 3 + 32 * c))], [])) [oz 0, oz 0, oz 0, oz 0] rfl ⟨(fun z => z h3), trivial, trivial, trivial, trivial⟩ ?_
      generalize e6 : mm_up M (b + 3 + 32 * c) 5 2 = M5
      have a7 : yv b M5 = ucr ((yv b M)) c 5 2 := by
        rw [← e6]
        refine yv_cr.trans ?_
        show ucr ((yv b M)) c 5 2 = _
        rfl
      have w8 : yf b M M5 := by rw [← e6]; exact yf_up yf_rf (by unfold yo; omega)
      refine wgo (g' := (mm_up M5 (b + 3 + 32 * c) 7 (M5 b 3), 36, [some (.inr (3, b)), some (.inr (0, b + 3 + 32 * c))], [])) [oz 0, oz 0, oz 0, oz 0] rfl ⟨trivial, trivial, trivial, trivial, trivial⟩ ?_
      generalize e10 : mm_up M5 (b + 3 + 32 * c) 7 (M5 b 3) = M9
      have a11 : yv b M9 = ucr (ucr ((yv b M)) c 5 2) c 7 (sc (ucr ((yv b M)) c 5 2) 3) := by
        rw [← e10]
        refine yv_cr.trans ?_
        show ucr ((yv b M5)) c 7 (sc (yv b M5) 3) = _
        first | rfl | simp only [a7]
      have w12 : yf b M M9 := by rw [← e10]; exact yf_up w8 (by unfold yo; omega)
      have x13 : f_Yd_handleIfThere (yv b M) c = (0, ucr (ucr ((yv b M)) c 5 2) c 7 (sc (ucr ((yv b M)) c 5 2) 3)) := by
        unfold f_Yd_handleIfThere
        rw [if_pos k2, if_pos k4]
      exact wend ⟨rfl, rfl⟩ ⟨rfl, a11.trans (congrArg Prod.snd x13).symm, w12⟩
    · have k14 : ¬ ((cr ((yv b M)) c 5) = 1) := by
        have q : ¬ ((cr (yv b M) c 5) = 1) := h3
        exact q
      refine wgo (g' := (mm_up M (b + 3 + 32 * c) 5 4, 28, [some (.inr (3, b)), some (.inr (0, b + 3 + 32 * c))], [])) [oz 1, oz 0, oz 0] rfl ⟨h3, trivial, trivial, trivial⟩ ?_
      generalize e16 : mm_up M (b + 3 + 32 * c) 5 4 = M15
      have a17 : yv b M15 = ucr ((yv b M)) c 5 4 := by
        rw [← e16]
        refine yv_cr.trans ?_
        show ucr ((yv b M)) c 5 4 = _
        rfl
      have w18 : yf b M M15 := by rw [← e16]; exact yf_up yf_rf (by unfold yo; omega)
      refine wgo (g' := (mm_up M15 (b + 3 + 32 * c) 7 (M15 b 3), 36, [some (.inr (3, b)), some (.inr (0, b + 3 + 32 * c))], [])) [oz 0, oz 0, oz 0, oz 0] rfl ⟨trivial, trivial, trivial, trivial, trivial⟩ ?_
      generalize e20 : mm_up M15 (b + 3 + 32 * c) 7 (M15 b 3) = M19
      have a21 : yv b M19 = ucr (ucr ((yv b M)) c 5 4) c 7 (sc (ucr ((yv b M)) c 5 4) 3) := by
        rw [← e20]
        refine yv_cr.trans ?_
        show ucr ((yv b M15)) c 7 (sc (yv b M15) 3) = _
        first | rfl | simp only [a17]
      have w22 : yf b M M19 := by rw [← e20]; exact yf_up w18 (by unfold yo; omega)
      have x23 : f_Yd_handleIfThere (yv b M) c = (0, ucr (ucr ((yv b M)) c 5 4) c 7 (sc (ucr ((yv b M)) c 5 4) 3)) := by
        unfold f_Yd_handleIfThere
        rw [if_pos k2, if_neg k14]
      exact wend ⟨rfl, rfl⟩ ⟨rfl, a21.trans (congrArg Prod.snd x23).symm, w22⟩
  · have k24 : ¬ ((cr ((yv b M)) c 0) = (cr ((yv b M)) c 6)) := by
      have q : ¬ ((cr (yv b M) c 0) = (cr (yv b M) c 6)) := h1
      exact q
    refine wgo (g' := (M, 36, [some (.inr (3, b)), some (.inr (0, b + 3 + 32 * c))], [])) [oz 1] rfl ⟨h1, trivial⟩ ?_
    have x25 : f_Yd_handleIfThere (yv b M) c = (0, (yv b M)) := by
      unfold f_Yd_handleIfThere
      rw [if_neg k24]
    exact wend ⟨rfl, rfl⟩ ⟨rfl, (congrArg Prod.snd x25).symm, yf_rf⟩
def f_Yd_addJob (A : ya) (x : Int32) (y : Int32) (r : Int32) : Int32 × ya := (sc (A) 6, usc (usc (ujb (ujb (ujb (A) (ix (sc (A) 6)) 0 x) (ix (sc (A) 6)) 1 y) (ix (sc (A) 6)) 2 r) 6 ((sc (ujb (ujb (ujb (A) (ix (sc (A) 6)) 0 x) (ix (sc (A) 6)) 1 y) (ix (sc (A) 6)) 2 r) 6) + 1)) 7 ((sc (usc (ujb (ujb (ujb (A) (ix (sc (A) 6)) 0 x) (ix (sc (A) 6)) 1 y) (ix (sc (A) 6)) 2 r) 6 ((sc (ujb (ujb (ujb (A) (ix (sc (A) 6)) 0 x) (ix (sc (A) 6)) 1 y) (ix (sc (A) 6)) 2 r) 6) + 1)) 7) + 1))
set_option maxRecDepth 20000 in
set_option maxHeartbeats 1000000 in
theorem ys_Yd_addJob {d b : Nat} {M : mm_M} {x : Int32} {y : Int32} {r : Int32} (hb : b = 8 ∨ b = 16) (hj : okx 8 (sc (yv b M) 6)) : YS (d + 1) 17 b M [.inr (3, b), .inl x, .inl y, .inl r] (some (f_Yd_addJob (yv b M) x y r).1) (f_Yd_addJob (yv b M) x y r).2 := by
  refine YS_of (Nat.le_of_ble_eq_true rfl) ?_
  show mm_Wp pg_Yd_addJob rt_Yd_addJob (ct_Sem (d + 0)) (M, 0, [some (.inr (3, b)), some (.inl x), some (.inl y), some (.inl r), none], []) _
  refine wgo (g' := (mm_up M (b + 6 + 32 * (ix (M b 6))) 0 x, 17, [some (.inr (3, b)), some (.inl x), some (.inl y), some (.inl r), some (.inl (M b 6))], [])) [oz 0, oz 0, oz 0, oz 0, oz 0, oz 0, oz (ix (M b 6)), oz 0, oz 0] rfl ⟨trivial, trivial, Nat.le_of_ble_eq_true rfl, trivial, trivial, trivial, hj, trivial, trivial, trivial⟩ ?_
  generalize e2 : mm_up M (b + 6 + 32 * (ix (M b 6))) 0 x = M1
  have a3 : yv b M1 = ujb ((yv b M)) (ix (sc ((yv b M)) 6)) 0 x := by
    rw [← e2]
    refine yv_jb.trans ?_
    show ujb ((yv b M)) (ix (sc (yv b M) 6)) 0 x = _
    rfl
  have w4 : yf b M M1 := by rw [← e2]; exact yf_up yf_rf (by unfold yo; omega)
  refine wgo (g' := (mm_up M1 (b + 6 + 32 * (ix (M b 6))) 1 y, 28, [some (.inr (3, b)), some (.inl x), some (.inl y), some (.inl r), some (.inl (M b 6))], [])) [oz 0, oz 0, oz 0, oz (ix (M b 6)), oz 0, oz 0] rfl ⟨trivial, trivial, trivial, hj, trivial, trivial, trivial⟩ ?_
  generalize e6 : mm_up M1 (b + 6 + 32 * (ix (M b 6))) 1 y = M5
  have a7 : yv b M5 = ujb (ujb ((yv b M)) (ix (sc ((yv b M)) 6)) 0 x) (ix (sc ((yv b M)) 6)) 1 y := by
    rw [← e6]
    refine yv_jb.trans ?_
    show ujb ((yv b M1)) (ix (sc (yv b M) 6)) 1 y = _
    first | rfl | simp only [a3]
  have w8 : yf b M M5 := by rw [← e6]; exact yf_up w4 (by unfold yo; omega)
  refine wgo (g' := (mm_up M5 (b + 6 + 32 * (ix (M b 6))) 2 r, 39, [some (.inr (3, b)), some (.inl x), some (.inl y), some (.inl r), some (.inl (M b 6))], [])) [oz 0, oz 0, oz 0, oz (ix (M b 6)), oz 0, oz 0] rfl ⟨trivial, trivial, trivial, hj, trivial, trivial, trivial⟩ ?_
  generalize e10 : mm_up M5 (b + 6 + 32 * (ix (M b 6))) 2 r = M9
  have a11 : yv b M9 = ujb (ujb (ujb ((yv b M)) (ix (sc ((yv b M)) 6)) 0 x) (ix (sc ((yv b M)) 6)) 1 y) (ix (sc ((yv b M)) 6)) 2 r := by
    rw [← e10]
    refine yv_jb.trans ?_
    show ujb ((yv b M5)) (ix (sc (yv b M) 6)) 2 r = _
    first | rfl | simp only [a3, a7]
  have w12 : yf b M M9 := by rw [← e10]; exact yf_up w8 (by unfold yo; omega)
  refine wgo (g' := (mm_up M9 b 6 ((M9 b 6) + 1), 49, [some (.inr (3, b)), some (.inl x), some (.inl y), some (.inl r), some (.inl (M b 6))], [])) [oz 0, oz 0, oz 0, oz 0, oz 0, oz 0] rfl ⟨trivial, trivial, trivial, trivial, trivial, trivial, trivial⟩ ?_
  generalize e14 : mm_up M9 b 6 ((M9 b 6) + 1) = M13
  have a15 : yv b M13 = usc (ujb (ujb (ujb ((yv b M)) (ix (sc ((yv b M)) 6)) 0 x) (ix (sc ((yv b M)) 6)) 1 y) (ix (sc ((yv b M)) 6)) 2 r) 6 ((sc (ujb (ujb (ujb ((yv b M)) (ix (sc ((yv b M)) 6)) 0 x) (ix (sc ((yv b M)) 6)) 1 y) (ix (sc ((yv b M)) 6)) 2 r) 6) + 1) := by
    rw [← e14]
    refine yv_sc.trans ?_
    show usc ((yv b M9)) 6 ((sc (yv b M9) 6) + 1) = _
    first | rfl | simp only [a3, a7, a11]
  have w16 : yf b M M13 := by rw [← e14]; exact yf_up w12 (by unfold yo; omega)
  refine wgo (g' := (mm_up M13 b 7 ((M13 b 7) + 1), 59, [some (.inr (3, b)), some (.inl x), some (.inl y), some (.inl r), some (.inl (M b 6))], [])) [oz 0, oz 0, oz 0, oz 0, oz 0, oz 0] rfl ⟨trivial, trivial, trivial, trivial, trivial, trivial, trivial⟩ ?_
  generalize e18 : mm_up M13 b 7 ((M13 b 7) + 1) = M17
  have a19 : yv b M17 = usc (usc (ujb (ujb (ujb ((yv b M)) (ix (sc ((yv b M)) 6)) 0 x) (ix (sc ((yv b M)) 6)) 1 y) (ix (sc ((yv b M)) 6)) 2 r) 6 ((sc (ujb (ujb (ujb ((yv b M)) (ix (sc ((yv b M)) 6)) 0 x) (ix (sc ((yv b M)) 6)) 1 y) (ix (sc ((yv b M)) 6)) 2 r) 6) + 1)) 7 ((sc (usc (ujb (ujb (ujb ((yv b M)) (ix (sc ((yv b M)) 6)) 0 x) (ix (sc ((yv b M)) 6)) 1 y) (ix (sc ((yv b M)) 6)) 2 r) 6 ((sc (ujb (ujb (ujb ((yv b M)) (ix (sc ((yv b M)) 6)) 0 x) (ix (sc ((yv b M)) 6)) 1 y) (ix (sc ((yv b M)) 6)) 2 r) 6) + 1)) 7) + 1) := by
    rw [← e18]
    refine yv_sc.trans ?_
    show usc ((yv b M13)) 7 ((sc (yv b M13) 7) + 1) = _
    first | rfl | simp only [a3, a7, a11, a15]
  have w20 : yf b M M17 := by rw [← e18]; exact yf_up w16 (by unfold yo; omega)
  refine wgo (g' := (M17, 61, [some (.inr (3, b)), some (.inl x), some (.inl y), some (.inl r), some (.inl (M b 6))], [.inl (M b 6)])) [oz 0] rfl ⟨trivial, trivial⟩ ?_
  have x21 : f_Yd_addJob (yv b M) x y r = (sc ((yv b M)) 6, usc (usc (ujb (ujb (ujb ((yv b M)) (ix (sc ((yv b M)) 6)) 0 x) (ix (sc ((yv b M)) 6)) 1 y) (ix (sc ((yv b M)) 6)) 2 r) 6 ((sc (ujb (ujb (ujb ((yv b M)) (ix (sc ((yv b M)) 6)) 0 x) (ix (sc ((yv b M)) 6)) 1 y) (ix (sc ((yv b M)) 6)) 2 r) 6) + 1)) 7 ((sc (usc (ujb (ujb (ujb ((yv b M)) (ix (sc ((yv b M)) 6)) 0 x) (ix (sc ((yv b M)) 6)) 1 y) (ix (sc ((yv b M)) 6)) 2 r) 6 ((sc (ujb (ujb (ujb ((yv b M)) (ix (sc ((yv b M)) 6)) 0 x) (ix (sc ((yv b M)) 6)) 1 y) (ix (sc ((yv b M)) 6)) 2 r) 6) + 1)) 7) + 1)) := by
    unfold f_Yd_addJob
    rfl
  exact wend ⟨_, rfl, rfl⟩ ⟨congrArg some ((show (sc (yv b M) 6 : Int32) = sc ((yv b M)) 6 from by first | rfl | simp only [a3, a7, a11, a15, a19]).trans (congrArg Prod.fst x21).symm), a19.trans (congrArg Prod.snd x21).symm, w20⟩
end
section
theorem nI_sl {i n : Nat} {x : Int32} (hx : x = nI n) (hn : n < 2 ^ 31) (hi : i ≤ n) (h : ¬ x ≤ nI i) : i < n := by
  subst hx
  rcases Nat.lt_or_ge i n with q | q
  · exact q
  · exact absurd (nI_le q (by omega)) h
def f_free : Nat → ya → Nat → Nat → Int32
  | 0, _, _, _ => 0
  | r + 1, A, k, i => (if (sc (A) 6) ≤ (nI i) then nI k else (if (jb (A) i 3) = 0 then (f_free r (A) (k + 1) (i + 1)) else (f_free r (A) k (i + 1))))
set_option maxRecDepth 20000 in
set_option maxHeartbeats 1000000 in
theorem lp_free {d b : Nat} {M : mm_M}   {n : Nat} (hn : sc (yv b M) 6 = nI n) (hn8 : n ≤ 8) : ∀ (r : Nat) (k : Nat) (i : Nat), (i ≤ n) → (n < i + r) → mm_Wp pg_Yd_countFree rt_Yd_countFree (ct_Sem (d + 0)) (M, 4, [some (.inr (3, b)), some (.inl (nI k)), some (.inl (nI i))], []) (fun res => res = (some (f_free r (yv b M) k i), M)) := by
  intro r
  induction r with
  | zero =>
    intro k i hi hr
    exfalso; omega
  | succ r ih =>
    intro k i hi hr
    refine wgo (g' := (M, 9, [some (.inr (3, b)), some (.inl (nI k)), some (.inl (nI i))], [.inl (M b 6), .inl (nI i)])) [oz 0, oz 0, oz 0] rfl ⟨trivial, trivial, trivial, trivial⟩ ?_
    by_cases h1 : (M b 6) ≤ (nI i)
    · have k2 : (sc ((yv b M)) 6) ≤ (nI i) := by
        have q : (sc (yv b M) 6) ≤ (nI i) := h1
        exact q
      refine wgo (g' := (M, 34, [some (.inr (3, b)), some (.inl (nI k)), some (.inl (nI i))], [.inl (nI k)])) [oz 1, oz 0] rfl ⟨h1, trivial, trivial⟩ ?_
      have x3 : f_free (r + 1) (yv b M) k i = nI k := by
        rw [f_free]
        rw [if_pos k2]
      exact wend ⟨_, rfl, rfl⟩ (congrArg (fun q => (some q, M)) x3.symm)
    · have k4 : ¬ ((sc ((yv b M)) 6) ≤ (nI i)) := by
        have q : ¬ ((sc (yv b M) 6) ≤ (nI i)) := h1
        exact q
      refine wgo (g' := (M, 21, [some (.inr (3, b)), some (.inl (nI k)), some (.inl (nI i))], [.inl (M (b + 6 + 32 * i) 3)])) [oz 0, oz 0, oz 0, oz 0, oz i, oz 0] rfl ⟨h1, trivial, trivial, trivial, ⟨rfl, Nat.lt_of_lt_of_le (nI_sl hn (by omega) hi k4) hn8⟩, trivial, trivial⟩ ?_
      by_cases h5 : (M (b + 6 + 32 * i) 3) = 0
      · have k6 : (jb ((yv b M)) i 3) = 0 := by
          have q : (jb (yv b M) i 3) = 0 := h5
          exact q
        refine wgo (g' := (M, 4, [some (.inr (3, b)), some (.inl ((nI k) + 1)), some (.inl ((nI i) + 1))], [])) [oz 0, oz 0, oz 0, oz 0] rfl ⟨(fun z => z h5), trivial, trivial, trivial, trivial⟩ ?_
        rw [nI_1 k]
        rw [nI_1 i]
        have x7 : f_free (r + 1) (yv b M) k i = f_free r ((yv b M)) (k + 1) (i + 1) := by
          rw [f_free]
          rw [if_neg k4, if_pos k6]
        rw [x7]
        exact ih (k + 1) (i + 1) (nI_sl hn (by omega) hi k4) (by omega)
      · have k8 : ¬ ((jb ((yv b M)) i 3) = 0) := by
          have q : ¬ ((jb (yv b M) i 3) = 0) := h5
          exact q
        refine wgo (g' := (M, 4, [some (.inr (3, b)), some (.inl (nI k)), some (.inl ((nI i) + 1))], [])) [oz 1, oz 0, oz 0] rfl ⟨h5, trivial, trivial, trivial⟩ ?_
        rw [nI_1 i]
        have x9 : f_free (r + 1) (yv b M) k i = f_free r ((yv b M)) k (i + 1) := by
          rw [f_free]
          rw [if_neg k4, if_neg k8]
        rw [x9]
        exact ih k (i + 1) (nI_sl hn (by omega) hi k4) (by omega)
def f_Yd_countFree (A : ya)  : Int32 := (f_free 9 (A) 0 0)
set_option maxRecDepth 20000 in
set_option maxHeartbeats 1000000 in
theorem sm_Yd_countFree {d b : Nat} {M : mm_M}  {n : Nat} (hn : sc (yv b M) 6 = nI n) (hn8 : n ≤ 8) : ct_Sem (d + 1) 20 M [.inr (3, b)] (some (f_Yd_countFree (yv b M) ), M) := by
  refine SM_of (Nat.le_of_ble_eq_true rfl) ?_
  show mm_Wp pg_Yd_countFree rt_Yd_countFree (ct_Sem (d + 0)) (M, 0, [some (.inr (3, b)), none, none], []) _
  refine wgo (g' := (M, 4, [some (.inr (3, b)), some (.inl 0), some (.inl 0)], [])) [oz 0, oz 0, oz 0, oz 0] rfl ⟨trivial, Nat.le_of_ble_eq_true rfl, trivial, Nat.le_of_ble_eq_true rfl, trivial⟩ ?_
  have x1 : f_Yd_countFree (yv b M) = f_free 9 ((yv b M)) 0 0 := by
    unfold f_Yd_countFree
    rfl
  rw [x1]
  exact lp_free (d := d) (b := b) (M := M) hn hn8 9 0 0 (Nat.zero_le _) (by omega)
def f_unq : Nat → ya → Nat → Int32 → Nat → Nat → Int32 × ya
  | 0, A, _, _, _, _ => (0, A)
  | r + 1, A, c, x, k, i => (if (cr (A) c 10) ≤ (nI i) then (0, ucr (A) c 10 (nI k)) else (if (wa (A) c i) = x then (f_unq r (A) c x k (i + 1)) else (f_unq r (uwa (A) c k (wa (A) c i)) c x (k + 1) (i + 1))))
set_option maxRecDepth 20000 in
set_option maxHeartbeats 1000000 in
theorem lp_unq {d b : Nat} {M : mm_M} {c : Nat} {x : Int32}  (hb : b = 8 ∨ b = 16) {n : Nat} (hn8 : n ≤ 8) : ∀ (r : Nat) (A : ya) (M1 : mm_M) (k : Nat) (i : Nat), yv b M1 = A → yf b M M1 → (cr A c 10 = nI n) → (i ≤ n) → (k ≤ i) → (n < i + r) → mm_Wp pg_Cr_unqueue rt_Cr_unqueue (ct_Sem (d + 0)) (M1, 4, [some (.inr (0, b + 3 + 32 * c)), some (.inl x), some (.inl (nI k)), some (.inl (nI i))], []) (yQ b M (none) (f_unq r A c x k i).2) := by
  intro r
  induction r with
  | zero =>
    intro A M1 k i hA hf hn hi hk hr
    exfalso; omega
  | succ r ih =>
    intro A M1 k i hA hf hn hi hk hr
    refine wgo (g' := (M1, 9, [some (.inr (0, b + 3 + 32 * c)), some (.inl x), some (.inl (nI k)), some (.inl (nI i))], [.inl (M1 (b + 3 + 32 * c) 10), .inl (nI i)])) [oz 0, oz 0, oz 0] rfl ⟨trivial, trivial, trivial, trivial⟩ ?_
    by_cases h1 : (M1 (b + 3 + 32 * c) 10) ≤ (nI i)
    · have k2 : (cr (A) c 10) ≤ (nI i) := by
        have q : (cr (yv b M1) c 10) ≤ (nI i) := h1
        first | exact q | (simp only [hA] at q; exact q)
      refine wgo (g' := (mm_up M1 (b + 3 + 32 * c) 10 (nI k), 48, [some (.inr (0, b + 3 + 32 * c)), some (.inl x), some (.inl (nI k)), some (.inl (nI i))], [])) [oz 1, oz 0, oz 0, oz 0] rfl ⟨h1, trivial, trivial, trivial, trivial⟩ ?_
      generalize e4 : mm_up M1 (b + 3 + 32 * c) 10 (nI k) = M3
      have a5 : yv b M3 = ucr (A) c 10 (nI k) := by
        rw [← e4]
        refine yv_cr.trans ?_
        show ucr ((yv b M1)) c 10 (nI k) = _
        first | rfl | simp only [hA]
      have w6 : yf b M M3 := by rw [← e4]; exact yf_up hf (by unfold yo; omega)
      have x7 : f_unq (r + 1) A c x k i = (0, ucr (A) c 10 (nI k)) := by
        rw [f_unq]
        rw [if_pos k2]
      exact wend ⟨rfl, rfl⟩ ⟨rfl, a5.trans (congrArg Prod.snd x7).symm, w6⟩
    · have k8 : ¬ ((cr (A) c 10) ≤ (nI i)) := by
        have q : ¬ ((cr (yv b M1) c 10) ≤ (nI i)) := h1
        first | exact q | (simp only [hA] at q; exact q)
      refine wgo (g' := (M1, 19, [some (.inr (0, b + 3 + 32 * c)), some (.inl x), some (.inl (nI k)), some (.inl (nI i))], [.inl x, .inl (M1 (b + 3 + 32 * c + 2) i)])) [oz 0, oz 0, oz 0, oz 0, oz i, oz 0] rfl ⟨h1, trivial, trivial, trivial, ⟨rfl, Nat.lt_of_lt_of_le (nI_sl hn (by omega) hi k8) hn8⟩, trivial, trivial⟩ ?_
      by_cases h9 : (M1 (b + 3 + 32 * c + 2) i) = x
      · have k10 : (wa (A) c i) = x := by
          have q : (wa (yv b M1) c i) = x := h9
          first | exact q | (simp only [hA] at q; exact q)
        refine wgo (g' := (M1, 4, [some (.inr (0, b + 3 + 32 * c)), some (.inl x), some (.inl (nI k)), some (.inl ((nI i) + 1))], [])) [oz 1, oz 0, oz 0] rfl ⟨h9, trivial, trivial, trivial⟩ ?_
        rw [nI_1 i]
        have x11 : f_unq (r + 1) A c x k i = f_unq r (A) c x k (i + 1) := by
          rw [f_unq]
          rw [if_neg k8, if_pos k10]
        rw [x11]
        exact ih _ M1 k (i + 1) hA hf hn (nI_sl hn (by omega) hi k8) (by omega) (by omega)
      · have k12 : ¬ ((wa (A) c i) = x) := by
          have q : ¬ ((wa (yv b M1) c i) = x) := h9
          first | exact q | (simp only [hA] at q; exact q)
        refine wgo (g' := (mm_up M1 (b + 3 + 32 * c + 2) k (M1 (b + 3 + 32 * c + 2) i), 34, [some (.inr (0, b + 3 + 32 * c)), some (.inl x), some (.inl (nI k)), some (.inl (nI i))], [])) [oz 0, oz 0, oz 0, oz 0, oz 0, oz 0, oz 0, oz i, oz k] rfl ⟨h9, trivial, trivial, trivial, trivial, trivial, trivial, ⟨rfl, Nat.lt_of_lt_of_le (nI_sl hn (by omega) hi k8) hn8⟩, ⟨rfl, Nat.lt_of_le_of_lt hk (Nat.lt_of_lt_of_le (nI_sl hn (by omega) hi k8) hn8)⟩, trivial⟩ ?_
        generalize e14 : mm_up M1 (b + 3 + 32 * c + 2) k (M1 (b + 3 + 32 * c + 2) i) = M13
        have a15 : yv b M13 = uwa (A) c k (wa (A) c i) := by
          rw [← e14]
          refine yv_wa.trans ?_
          show uwa ((yv b M1)) c k (wa (yv b M1) c i) = _
          first | rfl | simp only [hA]
        have w16 : yf b M M13 := by rw [← e14]; exact yf_up hf (by unfold yo; omega)
        refine wgo (g' := (M13, 4, [some (.inr (0, b + 3 + 32 * c)), some (.inl x), some (.inl ((nI k) + 1)), some (.inl ((nI i) + 1))], [])) [oz 0, oz 0, oz 0] rfl ⟨trivial, trivial, trivial, trivial⟩ ?_
        rw [nI_1 k]
        rw [nI_1 i]
        have x17 : f_unq (r + 1) A c x k i = f_unq r (uwa (A) c k (wa (A) c i)) c x (k + 1) (i + 1) := by
          rw [f_unq]
          rw [if_neg k8, if_neg k12]
        rw [x17]
        exact ih _ M13 (k + 1) (i + 1) a15 w16 hn (nI_sl hn (by omega) hi k8) (by omega) (by omega)
def f_Cr_unqueue (A : ya) (c : Nat) (x : Int32) : Int32 × ya := (f_unq 9 (A) c x 0 0)
set_option maxRecDepth 20000 in
set_option maxHeartbeats 1000000 in
theorem ys_Cr_unqueue {d b : Nat} {M : mm_M} {c : Nat} {x : Int32} (hb : b = 8 ∨ b = 16) {n : Nat} (hn : cr (yv b M) c 10 = nI n) (hn8 : n ≤ 8) : YS (d + 1) 6 b M [.inr (0, b + 3 + 32 * c), .inl x] (none) (f_Cr_unqueue (yv b M) c x).2 := by
  refine YS_of (Nat.le_of_ble_eq_true rfl) ?_
  show mm_Wp pg_Cr_unqueue rt_Cr_unqueue (ct_Sem (d + 0)) (M, 0, [some (.inr (0, b + 3 + 32 * c)), some (.inl x), none, none], []) _
  refine wgo (g' := (M, 4, [some (.inr (0, b + 3 + 32 * c)), some (.inl x), some (.inl 0), some (.inl 0)], [])) [oz 0, oz 0, oz 0, oz 0] rfl ⟨trivial, Nat.le_of_ble_eq_true rfl, trivial, Nat.le_of_ble_eq_true rfl, trivial⟩ ?_
  have x1 : f_Cr_unqueue (yv b M) c x = f_unq 9 ((yv b M)) c x 0 0 := by
    unfold f_Cr_unqueue
    rfl
  rw [x1]
  exact lp_unq (d := d) (b := b) (M := M) hb hn8 9 _ M 0 0 rfl yf_rf hn (Nat.zero_le _) (Nat.zero_le _) (by omega)
end
section
def f_Yd_hand (A : ya) (j : Nat) (c : Nat) : Int32 × ya := (0, usc ((f_Cr_queue (ujb (ujb (A) j 3 1) j 4 (nI c)) c (nI j)).2) 8 1)
set_option maxRecDepth 20000 in
set_option maxHeartbeats 1000000 in
theorem ys_Yd_hand {d b : Nat} {M : mm_M} {j : Nat} {c : Nat} (hb : b = 8 ∨ b = 16) (hj : j < 8) (hc : c < 3) (hq : ¬ 8 ≤ cr (yv b M) c 10 → okx 8 (cr (yv b M) c 10)) : YS (d + 2) 18 b M [.inr (3, b), .inl (nI j), .inl (nI c)] (none) (f_Yd_hand (yv b M) j c).2 := by
  refine YS_of (Nat.le_of_ble_eq_true rfl) ?_
  show mm_Wp pg_Yd_hand rt_Yd_hand (ct_Sem (d + 1)) (M, 0, [some (.inr (3, b)), some (.inl (nI j)), some (.inl (nI c))], []) _
  refine wgo (g' := (mm_up M (b + 6 + 32 * j) 3 1, 10, [some (.inr (3, b)), some (.inl (nI j)), some (.inl (nI c))], [])) [oz 0, oz 0, oz 0, oz j, oz 0, oz 0] rfl ⟨trivial, trivial, trivial, ⟨rfl, (show j < 8 from by omega)⟩, trivial, trivial, trivial⟩ ?_
  generalize e2 : mm_up M (b + 6 + 32 * j) 3 1 = M1
  have a3 : yv b M1 = ujb ((yv b M)) j 3 1 := by
    rw [← e2]
    refine yv_jb.trans ?_
    show ujb ((yv b M)) j 3 1 = _
    rfl
  have w4 : yf b M M1 := by rw [← e2]; exact yf_up yf_rf (by unfold yo; omega)
  refine wgo (g' := (mm_up M1 (b + 6 + 32 * j) 4 (nI c), 20, [some (.inr (3, b)), some (.inl (nI j)), some (.inl (nI c))], [])) [oz 0, oz 0, oz 0, oz j, oz 0, oz 0] rfl ⟨trivial, trivial, trivial, ⟨rfl, (show j < 8 from by omega)⟩, trivial, trivial, trivial⟩ ?_
  generalize e6 : mm_up M1 (b + 6 + 32 * j) 4 (nI c) = M5
  have a7 : yv b M5 = ujb (ujb ((yv b M)) j 3 1) j 4 (nI c) := by
    rw [← e6]
    refine yv_jb.trans ?_
    show ujb ((yv b M1)) j 4 (nI c) = _
    first | rfl | simp only [a3]
  have w8 : yf b M M5 := by rw [← e6]; exact yf_up w4 (by unfold yo; omega)
  refine wgo (g' := (M5, 27, [some (.inr (3, b)), some (.inl (nI j)), some (.inl (nI c))], [.inl (nI j), .inr (0, b + 3 + 32 * c)])) [oz 0, oz 0, oz 0, oz c, oz 0] rfl ⟨trivial, trivial, trivial, ⟨rfl, (show c < 3 from by omega)⟩, trivial, trivial⟩ ?_
  obtain ⟨M9, s10, a11, w12⟩ := ys_Cr_queue (d := d) (b := b) (M := M5) (c := c) (x := nI j) hb (by rw [a7]; exact hq)
  have a11 : yv b M9 = (f_Cr_queue (ujb (ujb ((yv b M)) j 3 1) j 4 (nI c)) c (nI j)).2 := a11.trans (show (f_Cr_queue ((yv b M5)) c (nI j)).2 = _ from by first | rfl | simp only [a3, a7])
  have w12 : yf b M M9 := yf_tr w8 w12
  refine wgo (g' := (mm_up M9 b 8 1, 35, [some (.inr (3, b)), some (.inl (nI j)), some (.inl (nI c))], [])) [oc (none, M9), oz 0, oz 0, oz 0] rfl ⟨⟨s10, Nat.le_of_ble_eq_true rfl, Nat.le_of_ble_eq_true rfl, ⟨_, rfl⟩⟩, trivial, trivial, Or.inr rfl, trivial⟩ ?_
  generalize e14 : mm_up M9 b 8 1 = M13
  have a15 : yv b M13 = usc ((f_Cr_queue (ujb (ujb ((yv b M)) j 3 1) j 4 (nI c)) c (nI j)).2) 8 1 := by
    rw [← e14]
    refine yv_sc.trans ?_
    show usc ((yv b M9)) 8 1 = _
    first | rfl | simp only [a3, a7, a11]
  have w16 : yf b M M13 := by rw [← e14]; exact yf_up w12 (by unfold yo; omega)
  have x17 : f_Yd_hand (yv b M) j c = (0, usc ((f_Cr_queue (ujb (ujb ((yv b M)) j 3 1) j 4 (nI c)) c (nI j)).2) 8 1) := by
    unfold f_Yd_hand
    rfl
  exact wend ⟨rfl, rfl⟩ ⟨rfl, a15.trans (congrArg Prod.snd x17).symm, w16⟩
theorem okw {A : ya} {n : Nat} {x : Int32} (hn : ynn A n) (h : ¬ f_Ct_within x 0 (sc A 0 - 1) = 0) : okx 3 x := by
  obtain ⟨h1, h2⟩ := hn
  rw [h1] at h
  unfold f_Ct_within at h
  by_cases q1 : x < 0
  · rw [if_pos q1] at h; exact absurd rfl h
  · rw [if_neg q1] at h
    by_cases q2 : nI n - 1 < x
    · rw [if_pos q2] at h; exact absurd rfl h
    · obtain ⟨j, hj, rfl⟩ := nI_of q1
      rcases n with _ | n
      · exfalso
        apply q2
        have e : nI 0 - 1 = -1 := by decide
        rw [e, Int32.lt_iff_toInt_lt, nI_toInt hj]
        have e2 : (-1 : Int32).toInt = -1 := by decide
        rw [e2]; omega
      · rw [nI_pred] at q2
        have q3 : ¬ n < j := fun z => q2 (nI_lt z hj)
        exact okx_nI (by omega) (by decide)
def wcn (A : ya) : Prop := ∀ c, c < 3 → ∃ m, m ≤ 8 ∧ cr A c 10 = nI m
def f_Yd_free (A : ya) (j : Nat) : Int32 × ya := (if (f_Ct_within (jb (A) j 4) 0 ((sc (A) 0) - 1)) = 0 then (0, ujb (ujb (A) j 3 0) j 4 ((-1))) else (0, ujb (ujb ((f_Cr_unqueue (A) (ix (jb (A) j 4)) (nI j)).2) j 3 0) j 4 ((-1))))
set_option maxRecDepth 20000 in
set_option maxHeartbeats 1000000 in
theorem ys_Yd_free {d b : Nat} {M : mm_M} {j : Nat} (hb : b = 8 ∨ b = 16) {n : Nat} (hj : j < 8) (hn : ynn (yv b M) n) (hw : wcn (yv b M)) : YS (d + 2) 19 b M [.inr (3, b), .inl (nI j)] (none) (f_Yd_free (yv b M) j).2 := by
  refine YS_of (Nat.le_of_ble_eq_true rfl) ?_
  show mm_Wp pg_Yd_free rt_Yd_free (ct_Sem (d + 1)) (M, 0, [some (.inr (3, b)), some (.inl (nI j)), none], []) _
  refine wgo (g' := (M, 18, [some (.inr (3, b)), some (.inl (nI j)), some (.inl (M (b + 6 + 32 * j) 4))], [.inl ((M b 0) - 1), .inl 0, .inl (M (b + 6 + 32 * j) 4)])) [oz 0, oz 0, oz 0, oz j, oz 0, oz 0, oz 0, oz 0, oz 0, oz 0, oz 0, oz 0] rfl ⟨trivial, trivial, trivial, ⟨rfl, (show j < 8 from by omega)⟩, trivial, Nat.le_of_ble_eq_true rfl, trivial, trivial, trivial, trivial, trivial, trivial, trivial⟩ ?_
  have s1 := sm_Ct_within (d := d)  (M := M) (v := M (b + 6 + 32 * j) 4) (a := 0) (e := (M b 0) - 1) 
  refine wgo (g' := (M, 21, [some (.inr (3, b)), some (.inl (nI j)), some (.inl (M (b + 6 + 32 * j) 4))], [.inl (f_Ct_within (M (b + 6 + 32 * j) 4) 0 ((M b 0) - 1))])) [oc (some (f_Ct_within (M (b + 6 + 32 * j) 4) 0 ((M b 0) - 1)), M)] rfl ⟨⟨s1, Nat.le_of_ble_eq_true rfl, Nat.le_of_ble_eq_true rfl, trivial⟩, trivial⟩ ?_
  by_cases h2 : (f_Ct_within (M (b + 6 + 32 * j) 4) 0 ((M b 0) - 1)) = 0
  · have k3 : (f_Ct_within (jb ((yv b M)) j 4) 0 ((sc ((yv b M)) 0) - 1)) = 0 := by
      have q : (f_Ct_within (jb (yv b M) j 4) 0 ((sc (yv b M) 0) - 1)) = 0 := h2
      exact q
    refine wgo (g' := (mm_up M (b + 6 + 32 * j) 3 0, 44, [some (.inr (3, b)), some (.inl (nI j)), some (.inl (M (b + 6 + 32 * j) 4))], [])) [oz 1, oz 0, oz 0, oz 0, oz j, oz 0, oz 0] rfl ⟨h2, trivial, trivial, trivial, ⟨rfl, (show j < 8 from by omega)⟩, trivial, trivial, trivial⟩ ?_
    generalize e5 : mm_up M (b + 6 + 32 * j) 3 0 = M4
    have a6 : yv b M4 = ujb ((yv b M)) j 3 0 := by
      rw [← e5]
      refine yv_jb.trans ?_
      show ujb ((yv b M)) j 3 0 = _
      rfl
    have w7 : yf b M M4 := by rw [← e5]; exact yf_up yf_rf (by unfold yo; omega)
    refine wgo (g' := (mm_up M4 (b + 6 + 32 * j) 4 ((-1)), 54, [some (.inr (3, b)), some (.inl (nI j)), some (.inl (M (b + 6 + 32 * j) 4))], [])) [oz 0, oz 0, oz 0, oz j, oz 0, oz 0] rfl ⟨trivial, trivial, trivial, ⟨rfl, (show j < 8 from by omega)⟩, trivial, trivial, trivial⟩ ?_
    generalize e9 : mm_up M4 (b + 6 + 32 * j) 4 ((-1)) = M8
    have a10 : yv b M8 = ujb (ujb ((yv b M)) j 3 0) j 4 ((-1)) := by
      rw [← e9]
      refine yv_jb.trans ?_
      show ujb ((yv b M4)) j 4 ((-1)) = _
      first | rfl | simp only [a6]
    have w11 : yf b M M8 := by rw [← e9]; exact yf_up w7 (by unfold yo; omega)
    have x12 : f_Yd_free (yv b M) j = (0, ujb (ujb ((yv b M)) j 3 0) j 4 ((-1))) := by
      unfold f_Yd_free
      rw [if_pos k3]
    exact wend ⟨rfl, rfl⟩ ⟨rfl, a10.trans (congrArg Prod.snd x12).symm, w11⟩
  · have k13 : ¬ ((f_Ct_within (jb ((yv b M)) j 4) 0 ((sc ((yv b M)) 0) - 1)) = 0) := by
      have q : ¬ ((f_Ct_within (jb (yv b M) j 4) 0 ((sc (yv b M) 0) - 1)) = 0) := h2
      exact q
    refine wgo (g' := (M, 31, [some (.inr (3, b)), some (.inl (nI j)), some (.inl (M (b + 6 + 32 * j) 4))], [.inl (nI j), .inr (0, b + 3 + 32 * (ix (M (b + 6 + 32 * j) 4)))])) [oz 0, oz 0, oz 0, oz 0, oz (ix (M (b + 6 + 32 * j) 4)), oz 0] rfl ⟨h2, trivial, trivial, trivial, (okw hn k13), trivial, trivial⟩ ?_
    obtain ⟨M14, s15, a16, w17⟩ := ys_Cr_unqueue (d := d) (b := b) (M := M) (c := ix (M (b + 6 + 32 * j) 4)) (x := nI j) hb (hw _ (okw hn k13).2).choose_spec.2 (hw _ (okw hn k13).2).choose_spec.1
    have a16 : yv b M14 = (f_Cr_unqueue ((yv b M)) (ix (jb ((yv b M)) j 4)) (nI j)).2 := a16.trans (show (f_Cr_unqueue ((yv b M)) (ix (jb (yv b M) j 4)) (nI j)).2 = _ from by first | rfl | simp only [yv])
    have w17 : yf b M M14 := yf_tr yf_rf w17
    refine wgo (g' := (mm_up M14 (b + 6 + 32 * j) 3 0, 44, [some (.inr (3, b)), some (.inl (nI j)), some (.inl (M (b + 6 + 32 * j) 4))], [])) [oc (none, M14), oz 0, oz 0, oz 0, oz j, oz 0, oz 0] rfl ⟨⟨s15, Nat.le_of_ble_eq_true rfl, Nat.le_of_ble_eq_true rfl, ⟨_, rfl⟩⟩, trivial, trivial, trivial, ⟨rfl, (show j < 8 from by omega)⟩, trivial, trivial, trivial⟩ ?_
    generalize e19 : mm_up M14 (b + 6 + 32 * j) 3 0 = M18
    have a20 : yv b M18 = ujb ((f_Cr_unqueue ((yv b M)) (ix (jb ((yv b M)) j 4)) (nI j)).2) j 3 0 := by
      rw [← e19]
      refine yv_jb.trans ?_
      show ujb ((yv b M14)) j 3 0 = _
      first | rfl | simp only [a16]
    have w21 : yf b M M18 := by rw [← e19]; exact yf_up w17 (by unfold yo; omega)
    refine wgo (g' := (mm_up M18 (b + 6 + 32 * j) 4 ((-1)), 54, [some (.inr (3, b)), some (.inl (nI j)), some (.inl (M (b + 6 + 32 * j) 4))], [])) [oz 0, oz 0, oz 0, oz j, oz 0, oz 0] rfl ⟨trivial, trivial, trivial, ⟨rfl, (show j < 8 from by omega)⟩, trivial, trivial, trivial⟩ ?_
    generalize e23 : mm_up M18 (b + 6 + 32 * j) 4 ((-1)) = M22
    have a24 : yv b M22 = ujb (ujb ((f_Cr_unqueue ((yv b M)) (ix (jb ((yv b M)) j 4)) (nI j)).2) j 3 0) j 4 ((-1)) := by
      rw [← e23]
      refine yv_jb.trans ?_
      show ujb ((yv b M18)) j 4 ((-1)) = _
      first | rfl | simp only [a16, a20]
    have w25 : yf b M M22 := by rw [← e23]; exact yf_up w21 (by unfold yo; omega)
    have x26 : f_Yd_free (yv b M) j = (0, ujb (ujb ((f_Cr_unqueue ((yv b M)) (ix (jb ((yv b M)) j 4)) (nI j)).2) j 3 0) j 4 ((-1))) := by
      unfold f_Yd_free
      rw [if_neg k13]
    exact wend ⟨rfl, rfl⟩ ⟨rfl, a24.trans (congrArg Prod.snd x26).symm, w25⟩
def f_Yd_liftOn (A : ya) (c : Nat) : Int32 × ya := (if (cr (ucr (A) c 7 ((cr (A) c 7) - 1)) c 7) = 0 then (0, (f_Yd_handleIfThere (ucr (ucr (ucr (A) c 7 ((cr (A) c 7) - 1)) c 6 (jb (ucr (A) c 7 ((cr (A) c 7) - 1)) (ix (cr (ucr (A) c 7 ((cr (A) c 7) - 1)) c 4)) 1)) c 5 3) c).2) else (0, ucr (A) c 7 ((cr (A) c 7) - 1)))
set_option maxRecDepth 20000 in
set_option maxHeartbeats 1000000 in
theorem ys_Yd_liftOn {d b : Nat} {M : mm_M} {c : Nat} (hb : b = 8 ∨ b = 16) (hat : okx 8 (cr (yv b M) c 4)) : YS (d + 2) 28 b M [.inr (3, b), .inr (0, b + 3 + 32 * c)] (none) (f_Yd_liftOn (yv b M) c).2 := by
  refine YS_of (Nat.le_of_ble_eq_true rfl) ?_
  show mm_Wp pg_Yd_liftOn rt_Yd_liftOn (ct_Sem (d + 1)) (M, 0, [some (.inr (3, b)), some (.inr (0, b + 3 + 32 * c))], []) _
  refine wgo (g' := (mm_up M (b + 3 + 32 * c) 7 ((M (b + 3 + 32 * c) 7) - 1), 10, [some (.inr (3, b)), some (.inr (0, b + 3 + 32 * c))], [])) [oz 0, oz 0, oz 0, oz 0, oz 0, oz 0] rfl ⟨trivial, trivial, trivial, trivial, trivial, trivial, trivial⟩ ?_
  generalize e2 : mm_up M (b + 3 + 32 * c) 7 ((M (b + 3 + 32 * c) 7) - 1) = M1
  have a3 : yv b M1 = ucr ((yv b M)) c 7 ((cr ((yv b M)) c 7) - 1) := by
    rw [← e2]
    refine yv_cr.trans ?_
    show ucr ((yv b M)) c 7 ((cr (yv b M) c 7) - 1) = _
    rfl
  have w4 : yf b M M1 := by rw [← e2]; exact yf_up yf_rf (by unfold yo; omega)
  refine wgo (g' := (M1, 14, [some (.inr (3, b)), some (.inr (0, b + 3 + 32 * c))], [.inl (M1 (b + 3 + 32 * c) 7)])) [oz 0, oz 0] rfl ⟨trivial, trivial, trivial⟩ ?_
  by_cases h5 : (M1 (b + 3 + 32 * c) 7) = 0
  · have k6 : (cr (ucr ((yv b M)) c 7 ((cr ((yv b M)) c 7) - 1)) c 7) = 0 := by
      have q : (cr (yv b M1) c 7) = 0 := h5
      first | exact q | (simp only [a3] at q; exact q)
    refine wgo (g' := (mm_up M1 (b + 3 + 32 * c) 6 (M1 (b + 6 + 32 * (ix (M1 (b + 3 + 32 * c) 4))) 1), 33, [some (.inr (3, b)), some (.inr (0, b + 3 + 32 * c))], [])) [oz 0, oz 0, oz 0, oz 0, oz 0, oz 0, oz (ix (M1 (b + 3 + 32 * c) 4)), oz 0, oz 0] rfl ⟨(fun z => z h5), trivial, trivial, trivial, trivial, trivial, (show okx 8 (cr (yv b M1) c 4) from by rw [a3]; simpa [cr, jb, sc, se, wa, ucr, ujb, usc, use, uwa, mm_up, upd] using hat), trivial, trivial, trivial⟩ ?_
    generalize e8 : mm_up M1 (b + 3 + 32 * c) 6 (M1 (b + 6 + 32 * (ix (M1 (b + 3 + 32 * c) 4))) 1) = M7
    have a9 : yv b M7 = ucr (ucr ((yv b M)) c 7 ((cr ((yv b M)) c 7) - 1)) c 6 (jb (ucr ((yv b M)) c 7 ((cr ((yv b M)) c 7) - 1)) (ix (cr (ucr ((yv b M)) c 7 ((cr ((yv b M)) c 7) - 1)) c 4)) 1) := by
      rw [← e8]
      refine yv_cr.trans ?_
      show ucr ((yv b M1)) c 6 (jb (yv b M1) (ix (cr (yv b M1) c 4)) 1) = _
      first | rfl | simp only [a3]
    have w10 : yf b M M7 := by rw [← e8]; exact yf_up w4 (by unfold yo; omega)
    refine wgo (g' := (mm_up M7 (b + 3 + 32 * c) 5 3, 38, [some (.inr (3, b)), some (.inr (0, b + 3 + 32 * c))], [])) [oz 0, oz 0, oz 0] rfl ⟨trivial, trivial, trivial, trivial⟩ ?_
    generalize e12 : mm_up M7 (b + 3 + 32 * c) 5 3 = M11
    have a13 : yv b M11 = ucr (ucr (ucr ((yv b M)) c 7 ((cr ((yv b M)) c 7) - 1)) c 6 (jb (ucr ((yv b M)) c 7 ((cr ((yv b M)) c 7) - 1)) (ix (cr (ucr ((yv b M)) c 7 ((cr ((yv b M)) c 7) - 1)) c 4)) 1)) c 5 3 := by
      rw [← e12]
      refine yv_cr.trans ?_
      show ucr ((yv b M7)) c 5 3 = _
      first | rfl | simp only [a3, a9]
    have w14 : yf b M M11 := by rw [← e12]; exact yf_up w10 (by unfold yo; omega)
    refine wgo (g' := (M11, 40, [some (.inr (3, b)), some (.inr (0, b + 3 + 32 * c))], [.inr (0, b + 3 + 32 * c), .inr (3, b)])) [oz 0, oz 0] rfl ⟨trivial, trivial, trivial⟩ ?_
    obtain ⟨M15, s16, a17, w18⟩ := ys_Yd_handleIfThere (d := d) (b := b) (M := M11) (c := c) hb 
    have a17 : yv b M15 = (f_Yd_handleIfThere (ucr (ucr (ucr ((yv b M)) c 7 ((cr ((yv b M)) c 7) - 1)) c 6 (jb (ucr ((yv b M)) c 7 ((cr ((yv b M)) c 7) - 1)) (ix (cr (ucr ((yv b M)) c 7 ((cr ((yv b M)) c 7) - 1)) c 4)) 1)) c 5 3) c).2 := a17.trans (show (f_Yd_handleIfThere ((yv b M11)) c).2 = _ from by first | rfl | simp only [a3, a9, a13])
    have w18 : yf b M M15 := yf_tr w14 w18
    refine wgo (g' := (M15, 43, [some (.inr (3, b)), some (.inr (0, b + 3 + 32 * c))], [])) [oc (none, M15)] rfl ⟨⟨s16, Nat.le_of_ble_eq_true rfl, Nat.le_of_ble_eq_true rfl, ⟨_, rfl⟩⟩, trivial⟩ ?_
    have x19 : f_Yd_liftOn (yv b M) c = (0, (f_Yd_handleIfThere (ucr (ucr (ucr ((yv b M)) c 7 ((cr ((yv b M)) c 7) - 1)) c 6 (jb (ucr ((yv b M)) c 7 ((cr ((yv b M)) c 7) - 1)) (ix (cr (ucr ((yv b M)) c 7 ((cr ((yv b M)) c 7) - 1)) c 4)) 1)) c 5 3) c).2) := by
      unfold f_Yd_liftOn
      rw [if_pos k6]
    exact wend ⟨rfl, rfl⟩ ⟨rfl, a17.trans (congrArg Prod.snd x19).symm, w18⟩
  · have k20 : ¬ ((cr (ucr ((yv b M)) c 7 ((cr ((yv b M)) c 7) - 1)) c 7) = 0) := by
      have q : ¬ ((cr (yv b M1) c 7) = 0) := h5
      first | exact q | (simp only [a3] at q; exact q)
    refine wgo (g' := (M1, 43, [some (.inr (3, b)), some (.inr (0, b + 3 + 32 * c))], [])) [oz 1] rfl ⟨h5, trivial⟩ ?_
    have x21 : f_Yd_liftOn (yv b M) c = (0, ucr ((yv b M)) c 7 ((cr ((yv b M)) c 7) - 1)) := by
      unfold f_Yd_liftOn
      rw [if_neg k20]
    exact wend ⟨rfl, rfl⟩ ⟨rfl, a3.trans (congrArg Prod.snd x21).symm, w4⟩
def f_Yd_setOn (A : ya) (c : Nat) : Int32 × ya := (if (cr (ucr (A) c 7 ((cr (A) c 7) - 1)) c 7) = 0 then (0, ucr (ucr (usc (ujb (ujb (ucr (A) c 7 ((cr (A) c 7) - 1)) (ix (cr (ucr (A) c 7 ((cr (A) c 7) - 1)) c 4)) 3 3) (ix (cr (ujb (ucr (A) c 7 ((cr (A) c 7) - 1)) (ix (cr (ucr (A) c 7 ((cr (A) c 7) - 1)) c 4)) 3 3) c 4)) 5 ((sc (ujb (ucr (A) c 7 ((cr (A) c 7) - 1)) (ix (cr (ucr (A) c 7 ((cr (A) c 7) - 1)) c 4)) 3 3) 4) + 1)) 7 ((sc (ujb (ujb (ucr (A) c 7 ((cr (A) c 7) - 1)) (ix (cr (ucr (A) c 7 ((cr (A) c 7) - 1)) c 4)) 3 3) (ix (cr (ujb (ucr (A) c 7 ((cr (A) c 7) - 1)) (ix (cr (ucr (A) c 7 ((cr (A) c 7) - 1)) c 4)) 3 3) c 4)) 5 ((sc (ujb (ucr (A) c 7 ((cr (A) c 7) - 1)) (ix (cr (ucr (A) c 7 ((cr (A) c 7) - 1)) c 4)) 3 3) 4) + 1)) 7) - 1)) c 4 ((-1))) c 5 0) else (0, ucr (A) c 7 ((cr (A) c 7) - 1)))
set_option maxRecDepth 20000 in
set_option maxHeartbeats 1000000 in
theorem ys_Yd_setOn {d b : Nat} {M : mm_M} {c : Nat} (hb : b = 8 ∨ b = 16) (hat : okx 8 (cr (yv b M) c 4)) : YS (d + 1) 29 b M [.inr (3, b), .inr (0, b + 3 + 32 * c)] (none) (f_Yd_setOn (yv b M) c).2 := by
  refine YS_of (Nat.le_of_ble_eq_true rfl) ?_
  show mm_Wp pg_Yd_setOn rt_Yd_setOn (ct_Sem (d + 0)) (M, 0, [some (.inr (3, b)), some (.inr (0, b + 3 + 32 * c))], []) _
  refine wgo (g' := (mm_up M (b + 3 + 32 * c) 7 ((M (b + 3 + 32 * c) 7) - 1), 10, [some (.inr (3, b)), some (.inr (0, b + 3 + 32 * c))], [])) [oz 0, oz 0, oz 0, oz 0, oz 0, oz 0] rfl ⟨trivial, trivial, trivial, trivial, trivial, trivial, trivial⟩ ?_
  generalize e2 : mm_up M (b + 3 + 32 * c) 7 ((M (b + 3 + 32 * c) 7) - 1) = M1
  have a3 : yv b M1 = ucr ((yv b M)) c 7 ((cr ((yv b M)) c 7) - 1) := by
    rw [← e2]
    refine yv_cr.trans ?_
    show ucr ((yv b M)) c 7 ((cr (yv b M) c 7) - 1) = _
    rfl
  have w4 : yf b M M1 := by rw [← e2]; exact yf_up yf_rf (by unfold yo; omega)
  refine wgo (g' := (M1, 14, [some (.inr (3, b)), some (.inr (0, b + 3 + 32 * c))], [.inl (M1 (b + 3 + 32 * c) 7)])) [oz 0, oz 0] rfl ⟨trivial, trivial, trivial⟩ ?_
  by_cases h5 : (M1 (b + 3 + 32 * c) 7) = 0
  · have k6 : (cr (ucr ((yv b M)) c 7 ((cr ((yv b M)) c 7) - 1)) c 7) = 0 := by
      have q : (cr (yv b M1) c 7) = 0 := h5
      first | exact q | (simp only [a3] at q; exact q)
    refine wgo (g' := (mm_up M1 (b + 6 + 32 * (ix (M1 (b + 3 + 32 * c) 4))) 3 3, 30, [some (.inr (3, b)), some (.inr (0, b + 3 + 32 * c))], [])) [oz 0, oz 0, oz 0, oz 0, oz 0, oz (ix (M1 (b + 3 + 32 * c) 4)), oz 0, oz 0] rfl ⟨(fun z => z h5), trivial, trivial, trivial, trivial, (show okx 8 (cr (yv b M1) c 4) from by rw [a3]; simpa [cr, jb, sc, se, wa, ucr, ujb, usc, use, uwa, mm_up, upd] using hat), trivial, trivial, trivial⟩ ?_
    generalize e8 : mm_up M1 (b + 6 + 32 * (ix (M1 (b + 3 + 32 * c) 4))) 3 3 = M7
    have a9 : yv b M7 = ujb (ucr ((yv b M)) c 7 ((cr ((yv b M)) c 7) - 1)) (ix (cr (ucr ((yv b M)) c 7 ((cr ((yv b M)) c 7) - 1)) c 4)) 3 3 := by
      rw [← e8]
      refine yv_jb.trans ?_
      show ujb ((yv b M1)) (ix (cr (yv b M1) c 4)) 3 3 = _
      first | rfl | simp only [a3]
    have w10 : yf b M M7 := by rw [← e8]; exact yf_up w4 (by unfold yo; omega)
    refine wgo (g' := (mm_up M7 (b + 6 + 32 * (ix (M7 (b + 3 + 32 * c) 4))) 5 ((M7 b 4) + 1), 48, [some (.inr (3, b)), some (.inr (0, b + 3 + 32 * c))], [])) [oz 0, oz 0, oz 0, oz 0, oz (ix (M7 (b + 3 + 32 * c) 4)), oz 0, oz 0, oz 0, oz 0, oz 0] rfl ⟨trivial, trivial, trivial, trivial, (show okx 8 (cr (yv b M7) c 4) from by rw [a9]; simpa [cr, jb, sc, se, wa, ucr, ujb, usc, use, uwa, mm_up, upd] using hat), trivial, trivial, trivial, trivial, trivial, trivial⟩ ?_
    generalize e12 : mm_up M7 (b + 6 + 32 * (ix (M7 (b + 3 + 32 * c) 4))) 5 ((M7 b 4) + 1) = M11
    have a13 : yv b M11 = ujb (ujb (ucr ((yv b M)) c 7 ((cr ((yv b M)) c 7) - 1)) (ix (cr (ucr ((yv b M)) c 7 ((cr ((yv b M)) c 7) - 1)) c 4)) 3 3) (ix (cr (ujb (ucr ((yv b M)) c 7 ((cr ((yv b M)) c 7) - 1)) (ix (cr (ucr ((yv b M)) c 7 ((cr ((yv b M)) c 7) - 1)) c 4)) 3 3) c 4)) 5 ((sc (ujb (ucr ((yv b M)) c 7 ((cr ((yv b M)) c 7) - 1)) (ix (cr (ucr ((yv b M)) c 7 ((cr ((yv b M)) c 7) - 1)) c 4)) 3 3) 4) + 1) := by
      rw [← e12]
      refine yv_jb.trans ?_
      show ujb ((yv b M7)) (ix (cr (yv b M7) c 4)) 5 ((sc (yv b M7) 4) + 1) = _
      first | rfl | simp only [a3, a9]
    have w14 : yf b M M11 := by rw [← e12]; exact yf_up w10 (by unfold yo; omega)
    refine wgo (g' := (mm_up M11 b 7 ((M11 b 7) - 1), 58, [some (.inr (3, b)), some (.inr (0, b + 3 + 32 * c))], [])) [oz 0, oz 0, oz 0, oz 0, oz 0, oz 0] rfl ⟨trivial, trivial, trivial, trivial, trivial, trivial, trivial⟩ ?_
    generalize e16 : mm_up M11 b 7 ((M11 b 7) - 1) = M15
    have a17 : yv b M15 = usc (ujb (ujb (ucr ((yv b M)) c 7 ((cr ((yv b M)) c 7) - 1)) (ix (cr (ucr ((yv b M)) c 7 ((cr ((yv b M)) c 7) - 1)) c 4)) 3 3) (ix (cr (ujb (ucr ((yv b M)) c 7 ((cr ((yv b M)) c 7) - 1)) (ix (cr (ucr ((yv b M)) c 7 ((cr ((yv b M)) c 7) - 1)) c 4)) 3 3) c 4)) 5 ((sc (ujb (ucr ((yv b M)) c 7 ((cr ((yv b M)) c 7) - 1)) (ix (cr (ucr ((yv b M)) c 7 ((cr ((yv b M)) c 7) - 1)) c 4)) 3 3) 4) + 1)) 7 ((sc (ujb (ujb (ucr ((yv b M)) c 7 ((cr ((yv b M)) c 7) - 1)) (ix (cr (ucr ((yv b M)) c 7 ((cr ((yv b M)) c 7) - 1)) c 4)) 3 3) (ix (cr (ujb (ucr ((yv b M)) c 7 ((cr ((yv b M)) c 7) - 1)) (ix (cr (ucr ((yv b M)) c 7 ((cr ((yv b M)) c 7) - 1)) c 4)) 3 3) c 4)) 5 ((sc (ujb (ucr ((yv b M)) c 7 ((cr ((yv b M)) c 7) - 1)) (ix (cr (ucr ((yv b M)) c 7 ((cr ((yv b M)) c 7) - 1)) c 4)) 3 3) 4) + 1)) 7) - 1) := by
      rw [← e16]
      refine yv_sc.trans ?_
      show usc ((yv b M11)) 7 ((sc (yv b M11) 7) - 1) = _
      first | rfl | simp only [a3, a9, a13]
    have w18 : yf b M M15 := by rw [← e16]; exact yf_up w14 (by unfold yo; omega)
    refine wgo (g' := (mm_up M15 (b + 3 + 32 * c) 4 ((-1)), 63, [some (.inr (3, b)), some (.inr (0, b + 3 + 32 * c))], [])) [oz 0, oz 0, oz 0] rfl ⟨trivial, trivial, trivial, trivial⟩ ?_
    generalize e20 : mm_up M15 (b + 3 + 32 * c) 4 ((-1)) = M19
    have a21 : yv b M19 = ucr (usc (ujb (ujb (ucr ((yv b M)) c 7 ((cr ((yv b M)) c 7) - 1)) (ix (cr (ucr ((yv b M)) c 7 ((cr ((yv b M)) c 7) - 1)) c 4)) 3 3) (ix (cr (ujb (ucr ((yv b M)) c 7 ((cr ((yv b M)) c 7) - 1)) (ix (cr (ucr ((yv b M)) c 7 ((cr ((yv b M)) c 7) - 1)) c 4)) 3 3) c 4)) 5 ((sc (ujb (ucr ((yv b M)) c 7 ((cr ((yv b M)) c 7) - 1)) (ix (cr (ucr ((yv b M)) c 7 ((cr ((yv b M)) c 7) - 1)) c 4)) 3 3) 4) + 1)) 7 ((sc (ujb (ujb (ucr ((yv b M)) c 7 ((cr ((yv b M)) c 7) - 1)) (ix (cr (ucr ((yv b M)) c 7 ((cr ((yv b M)) c 7) - 1)) c 4)) 3 3) (ix (cr (ujb (ucr ((yv b M)) c 7 ((cr ((yv b M)) c 7) - 1)) (ix (cr (ucr ((yv b M)) c 7 ((cr ((yv b M)) c 7) - 1)) c 4)) 3 3) c 4)) 5 ((sc (ujb (ucr ((yv b M)) c 7 ((cr ((yv b M)) c 7) - 1)) (ix (cr (ucr ((yv b M)) c 7 ((cr ((yv b M)) c 7) - 1)) c 4)) 3 3) 4) + 1)) 7) - 1)) c 4 ((-1)) := by
      rw [← e20]
      refine yv_cr.trans ?_
      show ucr ((yv b M15)) c 4 ((-1)) = _
      first | rfl | simp only [a3, a9, a13, a17]
    have w22 : yf b M M19 := by rw [← e20]; exact yf_up w18 (by unfold yo; omega)
    refine wgo (g' := (mm_up M19 (b + 3 + 32 * c) 5 0, 68, [some (.inr (3, b)), some (.inr (0, b + 3 + 32 * c))], [])) [oz 0, oz 0, oz 0] rfl ⟨trivial, trivial, trivial, trivial⟩ ?_
    generalize e24 : mm_up M19 (b + 3 + 32 * c) 5 0 = M23
    have a25 : yv b M23 = ucr (ucr (usc (ujb (ujb (ucr ((yv b M)) c 7 ((cr ((yv b M)) c 7) - 1)) (ix (cr (ucr ((yv b M)) c 7 ((cr ((yv b M)) c 7) - 1)) c 4)) 3 3) (ix (cr (ujb (ucr ((yv b M)) c 7 ((cr ((yv b M)) c 7) - 1)) (ix (cr (ucr ((yv b M)) c 7 ((cr ((yv b M)) c 7) - 1)) c 4)) 3 3) c 4)) 5 ((sc (ujb (ucr ((yv b M)) c 7 ((cr ((yv b M)) c 7) - 1)) (ix (cr (ucr ((yv b M)) c 7 ((cr ((yv b M)) c 7) - 1)) c 4)) 3 3) 4) + 1)) 7 ((sc (ujb (ujb (ucr ((yv b M)) c 7 ((cr ((yv b M)) c 7) - 1)) (ix (cr (ucr ((yv b M)) c 7 ((cr ((yv b M)) c 7) - 1)) c 4)) 3 3) (ix (cr (ujb (ucr ((yv b M)) c 7 ((cr ((yv b M)) c 7) - 1)) (ix (cr (ucr ((yv b M)) c 7 ((cr ((yv b M)) c 7) - 1)) c 4)) 3 3) c 4)) 5 ((sc (ujb (ucr ((yv b M)) c 7 ((cr ((yv b M)) c 7) - 1)) (ix (cr (ucr ((yv b M)) c 7 ((cr ((yv b M)) c 7) - 1)) c 4)) 3 3) 4) + 1)) 7) - 1)) c 4 ((-1))) c 5 0 := by
      rw [← e24]
      refine yv_cr.trans ?_
      show ucr ((yv b M19)) c 5 0 = _
      first | rfl | simp only [a3, a9, a13, a17, a21]
    have w26 : yf b M M23 := by rw [← e24]; exact yf_up w22 (by unfold yo; omega)
    have x27 : f_Yd_setOn (yv b M) c = (0, ucr (ucr (usc (ujb (ujb (ucr ((yv b M)) c 7 ((cr ((yv b M)) c 7) - 1)) (ix (cr (ucr ((yv b M)) c 7 ((cr ((yv b M)) c 7) - 1)) c 4)) 3 3) (ix (cr (ujb (ucr ((yv b M)) c 7 ((cr ((yv b M)) c 7) - 1)) (ix (cr (ucr ((yv b M)) c 7 ((cr ((yv b M)) c 7) - 1)) c 4)) 3 3) c 4)) 5 ((sc (ujb (ucr ((yv b M)) c 7 ((cr ((yv b M)) c 7) - 1)) (ix (cr (ucr ((yv b M)) c 7 ((cr ((yv b M)) c 7) - 1)) c 4)) 3 3) 4) + 1)) 7 ((sc (ujb (ujb (ucr ((yv b M)) c 7 ((cr ((yv b M)) c 7) - 1)) (ix (cr (ucr ((yv b M)) c 7 ((cr ((yv b M)) c 7) - 1)) c 4)) 3 3) (ix (cr (ujb (ucr ((yv b M)) c 7 ((cr ((yv b M)) c 7) - 1)) (ix (cr (ucr ((yv b M)) c 7 ((cr ((yv b M)) c 7) - 1)) c 4)) 3 3) c 4)) 5 ((sc (ujb (ucr ((yv b M)) c 7 ((cr ((yv b M)) c 7) - 1)) (ix (cr (ucr ((yv b M)) c 7 ((cr ((yv b M)) c 7) - 1)) c 4)) 3 3) 4) + 1)) 7) - 1)) c 4 ((-1))) c 5 0) := by
      unfold f_Yd_setOn
      rw [if_pos k6]
    exact wend ⟨rfl, rfl⟩ ⟨rfl, a25.trans (congrArg Prod.snd x27).symm, w26⟩
  · have k28 : ¬ ((cr (ucr ((yv b M)) c 7 ((cr ((yv b M)) c 7) - 1)) c 7) = 0) := by
      have q : ¬ ((cr (yv b M1) c 7) = 0) := h5
      first | exact q | (simp only [a3] at q; exact q)
    refine wgo (g' := (M1, 68, [some (.inr (3, b)), some (.inr (0, b + 3 + 32 * c))], [])) [oz 1] rfl ⟨h5, trivial⟩ ?_
    have x29 : f_Yd_setOn (yv b M) c = (0, ucr ((yv b M)) c 7 ((cr ((yv b M)) c 7) - 1)) := by
      unfold f_Yd_setOn
      rw [if_neg k28]
    exact wend ⟨rfl, rfl⟩ ⟨rfl, a3.trans (congrArg Prod.snd x29).symm, w4⟩
def f_Yd_moveToward (A : ya) (c : Nat) (t : Int32) : Int32 × ya := (if t ≤ (cr (A) c 0) then (if (cr (A) c 0) ≤ t then (0, A) else (0, ucr (A) c 0 (if (if t < ((cr (A) c 0) - (sc (A) 2)) then ((cr (A) c 0) - (sc (A) 2)) else t) < (f_Yd_floorOf (A) c) then (f_Yd_floorOf (A) c) else (if t < ((cr (A) c 0) - (sc (A) 2)) then ((cr (A) c 0) - (sc (A) 2)) else t)))) else (0, ucr (A) c 0 (if (f_Yd_ceilingOf (A) c) < (if ((cr (A) c 0) + (sc (A) 2)) < t then ((cr (A) c 0) + (sc (A) 2)) else t) then (f_Yd_ceilingOf (A) c) else (if ((cr (A) c 0) + (sc (A) 2)) < t then ((cr (A) c 0) + (sc (A) 2)) else t))))
set_option maxRecDepth 20000 in
set_option maxHeartbeats 1000000 in
theorem ys_Yd_moveToward {d b : Nat} {M : mm_M} {c : Nat} {t : Int32} (hb : b = 8 ∨ b = 16) {n : Nat} (hc : c < 3) (hn : ynn (yv b M) n) : YS (d + 2) 31 b M [.inr (3, b), .inl (nI c), .inl t] (none) (f_Yd_moveToward (yv b M) c t).2 := by
  refine YS_of (Nat.le_of_ble_eq_true rfl) ?_
  show mm_Wp pg_Yd_moveToward rt_Yd_moveToward (ct_Sem (d + 1)) (M, 0, [some (.inr (3, b)), some (.inl (nI c)), some (.inl t), none], []) _
  refine wgo (g' := (M, 12, [some (.inr (3, b)), some (.inl (nI c)), some (.inl t), some (.inr (0, b + 3 + 32 * c))], [.inl (M (b + 3 + 32 * c) 0), .inl t])) [oz 0, oz 0, oz 0, oz c, oz 0, oz 0, oz 0, oz 0] rfl ⟨trivial, trivial, trivial, ⟨rfl, (show c < 3 from by omega)⟩, Nat.le_of_ble_eq_true rfl, trivial, trivial, trivial, trivial⟩ ?_
  by_cases h1 : t ≤ (M (b + 3 + 32 * c) 0)
  · have k2 : t ≤ (cr ((yv b M)) c 0) := by
      have q : t ≤ (cr (yv b M) c 0) := h1
      exact q
    refine wgo (g' := (M, 48, [some (.inr (3, b)), some (.inl (nI c)), some (.inl t), some (.inr (0, b + 3 + 32 * c))], [.inl (M (b + 3 + 32 * c) 0), .inl t])) [oz 1, oz 0, oz 0, oz 0] rfl ⟨h1, trivial, trivial, trivial, trivial⟩ ?_
    by_cases h3 : (M (b + 3 + 32 * c) 0) ≤ t
    · have k4 : (cr ((yv b M)) c 0) ≤ t := by
        have q : (cr (yv b M) c 0) ≤ t := h3
        exact q
      refine wgo (g' := (M, 76, [some (.inr (3, b)), some (.inl (nI c)), some (.inl t), some (.inr (0, b + 3 + 32 * c))], [])) [oz 1] rfl ⟨h3, trivial⟩ ?_
      have x5 : f_Yd_moveToward (yv b M) c t = (0, (yv b M)) := by
        unfold f_Yd_moveToward
        rw [if_pos k2, if_pos k4]
      exact wend ⟨rfl, rfl⟩ ⟨rfl, (congrArg Prod.snd x5).symm, yf_rf⟩
    · have k6 : ¬ ((cr ((yv b M)) c 0) ≤ t) := by
        have q : ¬ ((cr (yv b M) c 0) ≤ t) := h3
        exact q
      refine wgo (g' := (M, 67, [some (.inr (3, b)), some (.inl (nI c)), some (.inl t), some (.inr (0, b + 3 + 32 * c))], [.inl (nI c), .inr (3, b), .inl (if t < ((M (b + 3 + 32 * c) 0) - (M b 2)) then ((M (b + 3 + 32 * c) 0) - (M b 2)) else t), .inr (0, b + 3 + 32 * c)])) [oz 0, oz 0, oz 0, oz 0, oz 0, oz 0, oz 0, oz 0, oz 0, oz 0, oz 0] rfl ⟨h3, trivial, trivial, trivial, trivial, trivial, trivial, trivial, Nat.le_of_ble_eq_true rfl, trivial, trivial, trivial⟩ ?_
      have s7 := sm_Yd_floorOf (d := d) (b := b) (M := M) (c := c) hc
      refine wgo (g' := (mm_up M (b + 3 + 32 * c) 0 (if (if t < ((M (b + 3 + 32 * c) 0) - (M b 2)) then ((M (b + 3 + 32 * c) 0) - (M b 2)) else t) < (f_Yd_floorOf (yv b M) c) then (f_Yd_floorOf (yv b M) c) else (if t < ((M (b + 3 + 32 * c) 0) - (M b 2)) then ((M (b + 3 + 32 * c) 0) - (M b 2)) else t)), 76, [some (.inr (3, b)), some (.inl (nI c)), some (.inl t), some (.inr (0, b + 3 + 32 * c))], [])) [oc (some (f_Yd_floorOf (yv b M) c), M), oz 0, oz 0] rfl ⟨⟨s7, Nat.le_of_ble_eq_true rfl, Nat.le_of_ble_eq_true rfl, ⟨_, rfl⟩⟩, Nat.le_of_ble_eq_true rfl, trivial, trivial⟩ ?_
      generalize e9 : mm_up M (b + 3 + 32 * c) 0 (if (if t < ((M (b + 3 + 32 * c) 0) - (M b 2)) then ((M (b + 3 + 32 * c) 0) - (M b 2)) else t) < (f_Yd_floorOf (yv b M) c) then (f_Yd_floorOf (yv b M) c) else (if t < ((M (b + 3 + 32 * c) 0) - (M b 2)) then ((M (b + 3 + 32 * c) 0) - (M b 2)) else t)) = M8
      have a10 : yv b M8 = ucr ((yv b M)) c 0 (if (if t < ((cr ((yv b M)) c 0) - (sc ((yv b M)) 2)) then ((cr ((yv b M)) c 0) - (sc ((yv b M)) 2)) else t) < (f_Yd_floorOf ((yv b M)) c) then (f_Yd_floorOf ((yv b M)) c) else (if t < ((cr ((yv b M)) c 0) - (sc ((yv b M)) 2)) then ((cr ((yv b M)) c 0) - (sc ((yv b M)) 2)) else t)) := by
        rw [← e9]
        refine yv_cr.trans ?_
        show ucr ((yv b M)) c 0 (if (if t < ((cr (yv b M) c 0) - (sc (yv b M) 2)) then ((cr (yv b M) c 0) - (sc (yv b M) 2)) else t) < (f_Yd_floorOf (yv b M) c) then (f_Yd_floorOf (yv b M) c) else (if t < ((cr (yv b M) c 0) - (sc (yv b M) 2)) then ((cr (yv b M) c 0) - (sc (yv b M) 2)) else t)) = _
        rfl
      have w11 : yf b M M8 := by rw [← e9]; exact yf_up yf_rf (by unfold yo; omega)
      have x12 : f_Yd_moveToward (yv b M) c t = (0, ucr ((yv b M)) c 0 (if (if t < ((cr ((yv b M)) c 0) - (sc ((yv b M)) 2)) then ((cr ((yv b M)) c 0) - (sc ((yv b M)) 2)) else t) < (f_Yd_floorOf ((yv b M)) c) then (f_Yd_floorOf ((yv b M)) c) else (if t < ((cr ((yv b M)) c 0) - (sc ((yv b M)) 2)) then ((cr ((yv b M)) c 0) - (sc ((yv b M)) 2)) else t))) := by
        unfold f_Yd_moveToward
        rw [if_pos k2, if_neg k6]
      exact wend ⟨rfl, rfl⟩ ⟨rfl, a10.trans (congrArg Prod.snd x12).symm, w11⟩
  · have k13 : ¬ (t ≤ (cr ((yv b M)) c 0)) := by
      have q : ¬ (t ≤ (cr (yv b M) c 0)) := h1
      exact q
    refine wgo (g' := (M, 31, [some (.inr (3, b)), some (.inl (nI c)), some (.inl t), some (.inr (0, b + 3 + 32 * c))], [.inl (nI c), .inr (3, b), .inl (if ((M (b + 3 + 32 * c) 0) + (M b 2)) < t then ((M (b + 3 + 32 * c) 0) + (M b 2)) else t), .inr (0, b + 3 + 32 * c)])) [oz 0, oz 0, oz 0, oz 0, oz 0, oz 0, oz 0, oz 0, oz 0, oz 0, oz 0] rfl ⟨h1, trivial, trivial, trivial, trivial, trivial, trivial, trivial, Nat.le_of_ble_eq_true rfl, trivial, trivial, trivial⟩ ?_
    have s14 := sm_Yd_ceilingOf (d := d) (b := b) (M := M) (c := c) hc hn
    refine wgo (g' := (mm_up M (b + 3 + 32 * c) 0 (if (f_Yd_ceilingOf (yv b M) c) < (if ((M (b + 3 + 32 * c) 0) + (M b 2)) < t then ((M (b + 3 + 32 * c) 0) + (M b 2)) else t) then (f_Yd_ceilingOf (yv b M) c) else (if ((M (b + 3 + 32 * c) 0) + (M b 2)) < t then ((M (b + 3 + 32 * c) 0) + (M b 2)) else t)), 40, [some (.inr (3, b)), some (.inl (nI c)), some (.inl t), some (.inr (0, b + 3 + 32 * c))], [])) [oc (some (f_Yd_ceilingOf (yv b M) c), M), oz 0, oz 0] rfl ⟨⟨s14, Nat.le_of_ble_eq_true rfl, Nat.le_of_ble_eq_true rfl, ⟨_, rfl⟩⟩, Nat.le_of_ble_eq_true rfl, trivial, trivial⟩ ?_
    generalize e16 : mm_up M (b + 3 + 32 * c) 0 (if (f_Yd_ceilingOf (yv b M) c) < (if ((M (b + 3 + 32 * c) 0) + (M b 2)) < t then ((M (b + 3 + 32 * c) 0) + (M b 2)) else t) then (f_Yd_ceilingOf (yv b M) c) else (if ((M (b + 3 + 32 * c) 0) + (M b 2)) < t then ((M (b + 3 + 32 * c) 0) + (M b 2)) else t)) = M15
    have a17 : yv b M15 = ucr ((yv b M)) c 0 (if (f_Yd_ceilingOf ((yv b M)) c) < (if ((cr ((yv b M)) c 0) + (sc ((yv b M)) 2)) < t then ((cr ((yv b M)) c 0) + (sc ((yv b M)) 2)) else t) then (f_Yd_ceilingOf ((yv b M)) c) else (if ((cr ((yv b M)) c 0) + (sc ((yv b M)) 2)) < t then ((cr ((yv b M)) c 0) + (sc ((yv b M)) 2)) else t)) := by
      rw [← e16]
      refine yv_cr.trans ?_
      show ucr ((yv b M)) c 0 (if (f_Yd_ceilingOf (yv b M) c) < (if ((cr (yv b M) c 0) + (sc (yv b M) 2)) < t then ((cr (yv b M) c 0) + (sc (yv b M) 2)) else t) then (f_Yd_ceilingOf (yv b M) c) else (if ((cr (yv b M) c 0) + (sc (yv b M) 2)) < t then ((cr (yv b M) c 0) + (sc (yv b M) 2)) else t)) = _
      rfl
    have w18 : yf b M M15 := by rw [← e16]; exact yf_up yf_rf (by unfold yo; omega)
    refine wgo (g' := (M15, 76, [some (.inr (3, b)), some (.inl (nI c)), some (.inl t), some (.inr (0, b + 3 + 32 * c))], [])) [oz 0] rfl ⟨trivial, trivial⟩ ?_
    have x19 : f_Yd_moveToward (yv b M) c t = (0, ucr ((yv b M)) c 0 (if (f_Yd_ceilingOf ((yv b M)) c) < (if ((cr ((yv b M)) c 0) + (sc ((yv b M)) 2)) < t then ((cr ((yv b M)) c 0) + (sc ((yv b M)) 2)) else t) then (f_Yd_ceilingOf ((yv b M)) c) else (if ((cr ((yv b M)) c 0) + (sc ((yv b M)) 2)) < t then ((cr ((yv b M)) c 0) + (sc ((yv b M)) 2)) else t))) := by
      unfold f_Yd_moveToward
      rw [if_neg k13]
    exact wend ⟨rfl, rfl⟩ ⟨rfl, a17.trans (congrArg Prod.snd x19).symm, w18⟩
end
section
def f_Yd_takeFirst (A : ya) (c : Nat) : Int32 × ya := (if (cr (A) c 10) = 0 then (0, A) else (if (jb (A) (ix (wa (A) c 0)) 2) ≤ (sc (A) 4) then (0, (f_Yd_handleIfThere (ucr (ucr (ujb (ucr ((f_Cr_unqueue (A) c (wa (A) c 0)).2) c 4 (wa (A) c 0)) (ix (wa (A) c 0)) 3 2) c 6 (jb (ujb (ucr ((f_Cr_unqueue (A) c (wa (A) c 0)).2) c 4 (wa (A) c 0)) (ix (wa (A) c 0)) 3 2) (ix (wa (A) c 0)) 0)) c 5 1) c).2) else (0, A)))
set_option maxRecDepth 20000 in
set_option maxHeartbeats 1000000 in
theorem ys_Yd_takeFirst {d b : Nat} {M : mm_M} {c : Nat} (hb : b = 8 ∨ b = 16) {n : Nat} (hn : cr (yv b M) c 10 = nI n) (hn8 : n ≤ 8) (hw0 : ¬ cr (yv b M) c 10 = 0 → okx 8 (wa (yv b M) c 0)) : YS (d + 2) 26 b M [.inr (3, b), .inr (0, b + 3 + 32 * c)] (none) (f_Yd_takeFirst (yv b M) c).2 := by
  refine YS_of (Nat.le_of_ble_eq_true rfl) ?_
  show mm_Wp pg_Yd_takeFirst rt_Yd_takeFirst (ct_Sem (d + 1)) (M, 0, [some (.inr (3, b)), some (.inr (0, b + 3 + 32 * c)), none], []) _
  refine wgo (g' := (M, 4, [some (.inr (3, b)), some (.inr (0, b + 3 + 32 * c)), none], [.inl (M (b + 3 + 32 * c) 10)])) [oz 0, oz 0] rfl ⟨trivial, trivial, trivial⟩ ?_
  by_cases h1 : (M (b + 3 + 32 * c) 10) = 0
  · have k2 : (cr ((yv b M)) c 10) = 0 := by
      have q : (cr (yv b M) c 10) = 0 := h1
      exact q
    refine wgo (g' := (M, 7, [some (.inr (3, b)), some (.inr (0, b + 3 + 32 * c)), none], [])) [oz 0] rfl ⟨(fun z => z h1), trivial⟩ ?_
    have x3 : f_Yd_takeFirst (yv b M) c = (0, (yv b M)) := by
      unfold f_Yd_takeFirst
      rw [if_pos k2]
    exact wend ⟨rfl, rfl⟩ ⟨rfl, (congrArg Prod.snd x3).symm, yf_rf⟩
  · have k4 : ¬ ((cr ((yv b M)) c 10) = 0) := by
      have q : ¬ ((cr (yv b M) c 10) = 0) := h1
      exact q
    refine wgo (g' := (M, 28, [some (.inr (3, b)), some (.inr (0, b + 3 + 32 * c)), some (.inl (M (b + 3 + 32 * c + 2) 0))], [.inl (M (b + 6 + 32 * (ix (M (b + 3 + 32 * c + 2) 0))) 2), .inl (M b 4)])) [oz 1, oz 0, oz 0, oz 0, oz 0, oz 0, oz 0, oz 0, oz 0, oz 0, oz 0, oz (ix (M (b + 3 + 32 * c + 2) 0)), oz 0] rfl ⟨h1, trivial, trivial, trivial, ⟨rfl, by decide⟩, Nat.le_of_ble_eq_true rfl, trivial, trivial, trivial, trivial, trivial, (hw0 k4), trivial, trivial⟩ ?_
    by_cases h5 : (M (b + 6 + 32 * (ix (M (b + 3 + 32 * c + 2) 0))) 2) ≤ (M b 4)
    · have k6 : (jb ((yv b M)) (ix (wa ((yv b M)) c 0)) 2) ≤ (sc ((yv b M)) 4) := by
        have q : (jb (yv b M) (ix (wa (yv b M) c 0)) 2) ≤ (sc (yv b M) 4) := h5
        exact q
      refine wgo (g' := (M, 34, [some (.inr (3, b)), some (.inr (0, b + 3 + 32 * c)), some (.inl (M (b + 3 + 32 * c + 2) 0))], [.inl (M (b + 3 + 32 * c + 2) 0), .inr (0, b + 3 + 32 * c)])) [oz 1, oz 0, oz 0] rfl ⟨h5, trivial, trivial, trivial⟩ ?_
      obtain ⟨M7, s8, a9, w10⟩ := ys_Cr_unqueue (d := d) (b := b) (M := M) (c := c) (x := M (b + 3 + 32 * c + 2) 0) hb hn hn8
      have a9 : yv b M7 = (f_Cr_unqueue ((yv b M)) c (wa ((yv b M)) c 0)).2 := a9.trans (show (f_Cr_unqueue ((yv b M)) c (wa (yv b M) c 0)).2 = _ from by first | rfl | simp only [yv])
      have w10 : yf b M M7 := yf_tr yf_rf w10
      refine wgo (g' := (mm_up M7 (b + 3 + 32 * c) 4 (M (b + 3 + 32 * c + 2) 0), 42, [some (.inr (3, b)), some (.inr (0, b + 3 + 32 * c)), some (.inl (M (b + 3 + 32 * c + 2) 0))], [])) [oc (none, M7), oz 0, oz 0, oz 0] rfl ⟨⟨s8, Nat.le_of_ble_eq_true rfl, Nat.le_of_ble_eq_true rfl, ⟨_, rfl⟩⟩, trivial, trivial, trivial, trivial⟩ ?_
      generalize e12 : mm_up M7 (b + 3 + 32 * c) 4 (M (b + 3 + 32 * c + 2) 0) = M11
      have a13 : yv b M11 = ucr ((f_Cr_unqueue ((yv b M)) c (wa ((yv b M)) c 0)).2) c 4 (wa ((yv b M)) c 0) := by
        rw [← e12]
        refine yv_cr.trans ?_
        show ucr ((yv b M7)) c 4 (wa (yv b M) c 0) = _
        first | rfl | simp only [a9]
      have w14 : yf b M M11 := by rw [← e12]; exact yf_up w10 (by unfold yo; omega)
      refine wgo (g' := (mm_up M11 (b + 6 + 32 * (ix (M (b + 3 + 32 * c + 2) 0))) 3 2, 52, [some (.inr (3, b)), some (.inr (0, b + 3 + 32 * c)), some (.inl (M (b + 3 + 32 * c + 2) 0))], [])) [oz 0, oz 0, oz 0, oz (ix (M (b + 3 + 32 * c + 2) 0)), oz 0, oz 0] rfl ⟨trivial, trivial, trivial, (hw0 k4), trivial, trivial, trivial⟩ ?_
      generalize e16 : mm_up M11 (b + 6 + 32 * (ix (M (b + 3 + 32 * c + 2) 0))) 3 2 = M15
      have a17 : yv b M15 = ujb (ucr ((f_Cr_unqueue ((yv b M)) c (wa ((yv b M)) c 0)).2) c 4 (wa ((yv b M)) c 0)) (ix (wa ((yv b M)) c 0)) 3 2 := by
        rw [← e16]
        refine yv_jb.trans ?_
        show ujb ((yv b M11)) (ix (wa (yv b M) c 0)) 3 2 = _
        first | rfl | simp only [a9, a13]
      have w18 : yf b M M15 := by rw [← e16]; exact yf_up w14 (by unfold yo; omega)
      refine wgo (g' := (mm_up M15 (b + 3 + 32 * c) 6 (M15 (b + 6 + 32 * (ix (M (b + 3 + 32 * c + 2) 0))) 0), 65, [some (.inr (3, b)), some (.inr (0, b + 3 + 32 * c)), some (.inl (M (b + 3 + 32 * c + 2) 0))], [])) [oz 0, oz 0, oz 0, oz 0, oz (ix (M (b + 3 + 32 * c + 2) 0)), oz 0, oz 0] rfl ⟨trivial, trivial, trivial, trivial, (hw0 k4), trivial, trivial, trivial⟩ ?_
      generalize e20 : mm_up M15 (b + 3 + 32 * c) 6 (M15 (b + 6 + 32 * (ix (M (b + 3 + 32 * c + 2) 0))) 0) = M19
      have a21 : yv b M19 = ucr (ujb (ucr ((f_Cr_unqueue ((yv b M)) c (wa ((yv b M)) c 0)).2) c 4 (wa ((yv b M)) c 0)) (ix (wa ((yv b M)) c 0)) 3 2) c 6 (jb (ujb (ucr ((f_Cr_unqueue ((yv b M)) c (wa ((yv b M)) c 0)).2) c 4 (wa ((yv b M)) c 0)) (ix (wa ((yv b M)) c 0)) 3 2) (ix (wa ((yv b M)) c 0)) 0) := by
        rw [← e20]
        refine yv_cr.trans ?_
        show ucr ((yv b M15)) c 6 (jb (yv b M15) (ix (wa (yv b M) c 0)) 0) = _
        first | rfl | simp only [a9, a13, a17]
      have w22 : yf b M M19 := by rw [← e20]; exact yf_up w18 (by unfold yo; omega)
      refine wgo (g' := (mm_up M19 (b + 3 + 32 * c) 5 1, 70, [some (.inr (3, b)), some (.inr (0, b + 3 + 32 * c)), some (.inl (M (b + 3 + 32 * c + 2) 0))], [])) [oz 0, oz 0, oz 0] rfl ⟨trivial, trivial, trivial, trivial⟩ ?_
      generalize e24 : mm_up M19 (b + 3 + 32 * c) 5 1 = M23
      have a25 : yv b M23 = ucr (ucr (ujb (ucr ((f_Cr_unqueue ((yv b M)) c (wa ((yv b M)) c 0)).2) c 4 (wa ((yv b M)) c 0)) (ix (wa ((yv b M)) c 0)) 3 2) c 6 (jb (ujb (ucr ((f_Cr_unqueue ((yv b M)) c (wa ((yv b M)) c 0)).2) c 4 (wa ((yv b M)) c 0)) (ix (wa ((yv b M)) c 0)) 3 2) (ix (wa ((yv b M)) c 0)) 0)) c 5 1 := by
        rw [← e24]
        refine yv_cr.trans ?_
        show ucr ((yv b M19)) c 5 1 = _
        first | rfl | simp only [a9, a13, a17, a21]
      have w26 : yf b M M23 := by rw [← e24]; exact yf_up w22 (by unfold yo; omega)
      refine wgo (g' := (M23, 72, [some (.inr (3, b)), some (.inr (0, b + 3 + 32 * c)), some (.inl (M (b + 3 + 32 * c + 2) 0))], [.inr (0, b + 3 + 32 * c), .inr (3, b)])) [oz 0, oz 0] rfl ⟨trivial, trivial, trivial⟩ ?_
      obtain ⟨M27, s28, a29, w30⟩ := ys_Yd_handleIfThere (d := d) (b := b) (M := M23) (c := c) hb 
      have a29 : yv b M27 = (f_Yd_handleIfThere (ucr (ucr (ujb (ucr ((f_Cr_unqueue ((yv b M)) c (wa ((yv b M)) c 0)).2) c 4 (wa ((yv b M)) c 0)) (ix (wa ((yv b M)) c 0)) 3 2) c 6 (jb (ujb (ucr ((f_Cr_unqueue ((yv b M)) c (wa ((yv b M)) c 0)).2) c 4 (wa ((yv b M)) c 0)) (ix (wa ((yv b M)) c 0)) 3 2) (ix (wa ((yv b M)) c 0)) 0)) c 5 1) c).2 := a29.trans (show (f_Yd_handleIfThere ((yv b M23)) c).2 = _ from by first | rfl | simp only [a9, a13, a17, a21, a25])
      have w30 : yf b M M27 := yf_tr w26 w30
      refine wgo (g' := (M27, 75, [some (.inr (3, b)), some (.inr (0, b + 3 + 32 * c)), some (.inl (M (b + 3 + 32 * c + 2) 0))], [])) [oc (none, M27)] rfl ⟨⟨s28, Nat.le_of_ble_eq_true rfl, Nat.le_of_ble_eq_true rfl, ⟨_, rfl⟩⟩, trivial⟩ ?_
      have x31 : f_Yd_takeFirst (yv b M) c = (0, (f_Yd_handleIfThere (ucr (ucr (ujb (ucr ((f_Cr_unqueue ((yv b M)) c (wa ((yv b M)) c 0)).2) c 4 (wa ((yv b M)) c 0)) (ix (wa ((yv b M)) c 0)) 3 2) c 6 (jb (ujb (ucr ((f_Cr_unqueue ((yv b M)) c (wa ((yv b M)) c 0)).2) c 4 (wa ((yv b M)) c 0)) (ix (wa ((yv b M)) c 0)) 3 2) (ix (wa ((yv b M)) c 0)) 0)) c 5 1) c).2) := by
        unfold f_Yd_takeFirst
        rw [if_neg k4, if_pos k6]
      exact wend ⟨rfl, rfl⟩ ⟨rfl, a29.trans (congrArg Prod.snd x31).symm, w30⟩
    · have k32 : ¬ ((jb ((yv b M)) (ix (wa ((yv b M)) c 0)) 2) ≤ (sc ((yv b M)) 4)) := by
        have q : ¬ ((jb (yv b M) (ix (wa (yv b M) c 0)) 2) ≤ (sc (yv b M) 4)) := h5
        exact q
      refine wgo (g' := (M, 31, [some (.inr (3, b)), some (.inr (0, b + 3 + 32 * c)), some (.inl (M (b + 3 + 32 * c + 2) 0))], [])) [oz 0] rfl ⟨h5, trivial⟩ ?_
      have x33 : f_Yd_takeFirst (yv b M) c = (0, (yv b M)) := by
        unfold f_Yd_takeFirst
        rw [if_neg k4, if_neg k32]
      exact wend ⟨rfl, rfl⟩ ⟨rfl, (congrArg Prod.snd x33).symm, yf_rf⟩
theorem sw_out {x : Int32} (h1 : ¬ x = 1) (h2 : ¬ x = 2) (h3 : ¬ x = 3) (h4 : ¬ x = 4) : x.toInt < 1 ∨ 4 < x.toInt := by
  rcases Int.lt_or_le x.toInt 1 with q | q
  · exact Or.inl q
  · rcases Int.lt_or_le 4 x.toInt with z | z
    · exact Or.inr z
    · exfalso
      have e : x.toInt = 1 ∨ x.toInt = 2 ∨ x.toInt = 3 ∨ x.toInt = 4 := by omega
      rcases e with e | e | e | e
      · exact h1 (Int32.toInt_inj.mp (e.trans (by decide)))
      · exact h2 (Int32.toInt_inj.mp (e.trans (by decide)))
      · exact h3 (Int32.toInt_inj.mp (e.trans (by decide)))
      · exact h4 (Int32.toInt_inj.mp (e.trans (by decide)))
/-- what crane c's second needs -/
def yone (A : ya) (n c : Nat) : Prop := ynn A n ∧ (∃ m, m ≤ 8 ∧ cr A c 10 = nI m) ∧ (¬ cr A c 10 = 0 → okx 8 (wa A c 0)) ∧ ∀ A1, (A1 = A ∨ A1 = (f_Yd_takeFirst A c).2) → ynn A1 n ∧ ((cr A1 c 5 = 2 ∨ cr A1 c 5 = 4) → okx 8 (cr A1 c 4))
def f_Yd_passSecondOf (A : ya) (c : Nat) : Int32 × ya := (if (cr (A) c 3) = 0 then (if (cr (A) c 4) = ((-1)) then (if (cr ((f_Yd_takeFirst (A) c).2) c 5) = 1 then (if (cr ((f_Yd_handleIfThere ((f_Yd_moveToward ((f_Yd_takeFirst (A) c).2) c (cr ((f_Yd_takeFirst (A) c).2) c 6)).2) c).2) c 0) = (cr ((f_Yd_takeFirst (A) c).2) c 0) then (1, (f_Yd_handleIfThere ((f_Yd_moveToward ((f_Yd_takeFirst (A) c).2) c (cr ((f_Yd_takeFirst (A) c).2) c 6)).2) c).2) else (0, (f_Yd_handleIfThere ((f_Yd_moveToward ((f_Yd_takeFirst (A) c).2) c (cr ((f_Yd_takeFirst (A) c).2) c 6)).2) c).2)) else (if (cr ((f_Yd_takeFirst (A) c).2) c 5) = 2 then (0, (f_Yd_liftOn ((f_Yd_takeFirst (A) c).2) c).2) else (if (cr ((f_Yd_takeFirst (A) c).2) c 5) = 3 then (if (cr ((f_Yd_handleIfThere ((f_Yd_moveToward ((f_Yd_takeFirst (A) c).2) c (cr ((f_Yd_takeFirst (A) c).2) c 6)).2) c).2) c 0) = (cr ((f_Yd_takeFirst (A) c).2) c 0) then (1, (f_Yd_handleIfThere ((f_Yd_moveToward ((f_Yd_takeFirst (A) c).2) c (cr ((f_Yd_takeFirst (A) c).2) c 6)).2) c).2) else (0, (f_Yd_handleIfThere ((f_Yd_moveToward ((f_Yd_takeFirst (A) c).2) c (cr ((f_Yd_takeFirst (A) c).2) c 6)).2) c).2)) else (if (cr ((f_Yd_takeFirst (A) c).2) c 5) = 4 then (0, (f_Yd_setOn ((f_Yd_takeFirst (A) c).2) c).2) else (2, (f_Yd_moveToward ((f_Yd_takeFirst (A) c).2) c (f_Yd_placeOutOfTheWay ((f_Yd_takeFirst (A) c).2) c)).2))))) else (if (cr (A) c 5) = 1 then (if (cr ((f_Yd_handleIfThere ((f_Yd_moveToward (A) c (cr (A) c 6)).2) c).2) c 0) = (cr (A) c 0) then (1, (f_Yd_handleIfThere ((f_Yd_moveToward (A) c (cr (A) c 6)).2) c).2) else (0, (f_Yd_handleIfThere ((f_Yd_moveToward (A) c (cr (A) c 6)).2) c).2)) else (if (cr (A) c 5) = 2 then (0, (f_Yd_liftOn (A) c).2) else (if (cr (A) c 5) = 3 then (if (cr ((f_Yd_handleIfThere ((f_Yd_moveToward (A) c (cr (A) c 6)).2) c).2) c 0) = (cr (A) c 0) then (1, (f_Yd_handleIfThere ((f_Yd_moveToward (A) c (cr (A) c 6)).2) c).2) else (0, (f_Yd_handleIfThere ((f_Yd_moveToward (A) c (cr (A) c 6)).2) c).2)) else (if (cr (A) c 5) = 4 then (0, (f_Yd_setOn (A) c).2) else (2, (f_Yd_moveToward (A) c (f_Yd_placeOutOfTheWay (A) c)).2)))))) else (3, A))
set_option maxRecDepth 20000 in
set_option maxHeartbeats 1000000 in
theorem ys_Yd_passSecondOf {d b : Nat} {M : mm_M} {c : Nat} (hb : b = 8 ∨ b = 16) {n : Nat} (hc : c < 3) (hy : yone (yv b M) n c) : YS (d + 3) 25 b M [.inr (3, b), .inl (nI c)] (some (f_Yd_passSecondOf (yv b M) c).1) (f_Yd_passSecondOf (yv b M) c).2 := by
  refine YS_of (Nat.le_of_ble_eq_true rfl) ?_
  show mm_Wp pg_Yd_passSecondOf rt_Yd_passSecondOf (ct_Sem (d + 2)) (M, 0, [some (.inr (3, b)), some (.inl (nI c)), none, none], []) _
  refine wgo (g' := (M, 11, [some (.inr (3, b)), some (.inl (nI c)), some (.inr (0, b + 3 + 32 * c)), none], [.inl (M (b + 3 + 32 * c) 3)])) [oz 0, oz 0, oz 0, oz c, oz 0, oz 0, oz 0] rfl ⟨trivial, trivial, trivial, ⟨rfl, (show c < 3 from by omega)⟩, Nat.le_of_ble_eq_true rfl, trivial, trivial, trivial⟩ ?_
  by_cases h1 : (M (b + 3 + 32 * c) 3) = 0
  · have k2 : (cr ((yv b M)) c 3) = 0 := by
      have q : (cr (yv b M) c 3) = 0 := h1
      exact q
    refine wgo (g' := (M, 21, [some (.inr (3, b)), some (.inl (nI c)), some (.inr (0, b + 3 + 32 * c)), none], [.inl ((-1)), .inl (M (b + 3 + 32 * c) 4)])) [oz 1, oz 0, oz 0, oz 0] rfl ⟨h1, trivial, trivial, trivial, trivial⟩ ?_
    by_cases h3 : (M (b + 3 + 32 * c) 4) = ((-1))
    · have k4 : (cr ((yv b M)) c 4) = ((-1)) := by
        have q : (cr (yv b M) c 4) = ((-1)) := h3
        exact q
      refine wgo (g' := (M, 26, [some (.inr (3, b)), some (.inl (nI c)), some (.inr (0, b + 3 + 32 * c)), none], [.inr (0, b + 3 + 32 * c), .inr (3, b)])) [oz 0, oz 0, oz 0] rfl ⟨(fun z => z h3), trivial, trivial, trivial⟩ ?_
      obtain ⟨M5, s6, a7, w8⟩ := ys_Yd_takeFirst (d := d) (b := b) (M := M) (c := c) hb hy.2.1.choose_spec.2 hy.2.1.choose_spec.1 hy.2.2.1
      have a7 : yv b M5 = (f_Yd_takeFirst ((yv b M)) c).2 := a7.trans (show (f_Yd_takeFirst ((yv b M)) c).2 = _ from by first | rfl | simp only [yv])
      have w8 : yf b M M5 := yf_tr yf_rf w8
      refine wgo (g' := (M5, 33, [some (.inr (3, b)), some (.inl (nI c)), some (.inr (0, b + 3 + 32 * c)), none], [.inl (M5 (b + 3 + 32 * c) 5)])) [oc (none, M5), oz 0, oz 0] rfl ⟨⟨s6, Nat.le_of_ble_eq_true rfl, Nat.le_of_ble_eq_true rfl, ⟨_, rfl⟩⟩, trivial, trivial, trivial⟩ ?_
      by_cases h9 : M5 (b + 3 + 32 * c) 5 = 1
      · have k10 : (cr ((f_Yd_takeFirst ((yv b M)) c).2) c 5) = 1 := by
          have q : (cr (yv b M5) c 5) = 1 := h9
          first | exact q | (simp only [a7] at q; exact q)
        refine wgo (g' := (M5, 89, [some (.inr (3, b)), some (.inl (nI c)), some (.inr (0, b + 3 + 32 * c)), some (.inl (M5 (b + 3 + 32 * c) 0))], [.inl (M5 (b + 3 + 32 * c) 6), .inl (nI c), .inr (3, b)])) [oz 1, oz 0, oz 0, oz 0, oz 0, oz 0, oz 0, oz 0] rfl ⟨(by rw [h9]; decide), trivial, trivial, Nat.le_of_ble_eq_true rfl, trivial, trivial, trivial, trivial, trivial⟩ ?_
        obtain ⟨M11, s12, a13, w14⟩ := ys_Yd_moveToward (d := d) (b := b) (M := M5) (c := c) (t := M5 (b + 3 + 32 * c) 6) hb hc (hy.2.2.2 _ (Or.inr a7)).1
        have a13 : yv b M11 = (f_Yd_moveToward ((f_Yd_takeFirst ((yv b M)) c).2) c (cr ((f_Yd_takeFirst ((yv b M)) c).2) c 6)).2 := a13.trans (show (f_Yd_moveToward ((yv b M5)) c (cr (yv b M5) c 6)).2 = _ from by first | rfl | simp only [a7])
        have w14 : yf b M M11 := yf_tr w8 w14
        refine wgo (g' := (M11, 94, [some (.inr (3, b)), some (.inl (nI c)), some (.inr (0, b + 3 + 32 * c)), some (.inl (M5 (b + 3 + 32 * c) 0))], [.inr (0, b + 3 + 32 * c), .inr (3, b)])) [oc (none, M11), oz 0, oz 0] rfl ⟨⟨s12, Nat.le_of_ble_eq_true rfl, Nat.le_of_ble_eq_true rfl, ⟨_, rfl⟩⟩, trivial, trivial, trivial⟩ ?_
        obtain ⟨M15, s16, a17, w18⟩ := ys_Yd_handleIfThere (d := d + 1) (b := b) (M := M11) (c := c) hb 
        have a17 : yv b M15 = (f_Yd_handleIfThere ((f_Yd_moveToward ((f_Yd_takeFirst ((yv b M)) c).2) c (cr ((f_Yd_takeFirst ((yv b M)) c).2) c 6)).2) c).2 := a17.trans (show (f_Yd_handleIfThere ((yv b M11)) c).2 = _ from by first | rfl | simp only [a7, a13])
        have w18 : yf b M M15 := yf_tr w14 w18
        refine wgo (g' := (M15, 102, [some (.inr (3, b)), some (.inl (nI c)), some (.inr (0, b + 3 + 32 * c)), some (.inl (M5 (b + 3 + 32 * c) 0))], [.inl (M5 (b + 3 + 32 * c) 0), .inl (M15 (b + 3 + 32 * c) 0)])) [oc (none, M15), oz 0, oz 0, oz 0] rfl ⟨⟨s16, Nat.le_of_ble_eq_true rfl, Nat.le_of_ble_eq_true rfl, ⟨_, rfl⟩⟩, trivial, trivial, trivial, trivial⟩ ?_
        by_cases h19 : (M15 (b + 3 + 32 * c) 0) = (M5 (b + 3 + 32 * c) 0)
        · have k20 : (cr ((f_Yd_handleIfThere ((f_Yd_moveToward ((f_Yd_takeFirst ((yv b M)) c).2) c (cr ((f_Yd_takeFirst ((yv b M)) c).2) c 6)).2) c).2) c 0) = (cr ((f_Yd_takeFirst ((yv b M)) c).2) c 0) := by
            have q : (cr (yv b M15) c 0) = (cr (yv b M5) c 0) := h19
            first | exact q | (simp only [a7, a13, a17] at q; exact q)
          refine wgo (g' := (M15, 110, [some (.inr (3, b)), some (.inl (nI c)), some (.inr (0, b + 3 + 32 * c)), some (.inl (M5 (b + 3 + 32 * c) 0))], [.inl 1])) [oz 0, oz 0, oz 0] rfl ⟨(fun z => z h19), trivial, trivial, trivial⟩ ?_
          have x21 : f_Yd_passSecondOf (yv b M) c = (1, (f_Yd_handleIfThere ((f_Yd_moveToward ((f_Yd_takeFirst ((yv b M)) c).2) c (cr ((f_Yd_takeFirst ((yv b M)) c).2) c 6)).2) c).2) := by
            unfold f_Yd_passSecondOf
            rw [if_pos k2, if_pos k4, if_pos k10, if_pos k20]
          exact wend ⟨_, rfl, rfl⟩ ⟨congrArg some ((show (1 : Int32) = 1 from by first | rfl | simp only [a7, a13, a17]).trans (congrArg Prod.fst x21).symm), a17.trans (congrArg Prod.snd x21).symm, w18⟩
        · have k22 : ¬ ((cr ((f_Yd_handleIfThere ((f_Yd_moveToward ((f_Yd_takeFirst ((yv b M)) c).2) c (cr ((f_Yd_takeFirst ((yv b M)) c).2) c 6)).2) c).2) c 0) = (cr ((f_Yd_takeFirst ((yv b M)) c).2) c 0)) := by
            have q : ¬ ((cr (yv b M15) c 0) = (cr (yv b M5) c 0)) := h19
            first | exact q | (simp only [a7, a13, a17] at q; exact q)
          refine wgo (g' := (M15, 110, [some (.inr (3, b)), some (.inl (nI c)), some (.inr (0, b + 3 + 32 * c)), some (.inl (M5 (b + 3 + 32 * c) 0))], [.inl 0])) [oz 1, oz 0] rfl ⟨h19, trivial, trivial⟩ ?_
          have x23 : f_Yd_passSecondOf (yv b M) c = (0, (f_Yd_handleIfThere ((f_Yd_moveToward ((f_Yd_takeFirst ((yv b M)) c).2) c (cr ((f_Yd_takeFirst ((yv b M)) c).2) c 6)).2) c).2) := by
            unfold f_Yd_passSecondOf
            rw [if_pos k2, if_pos k4, if_pos k10, if_neg k22]
          exact wend ⟨_, rfl, rfl⟩ ⟨congrArg some ((show (0 : Int32) = 0 from by first | rfl | simp only [a7, a13, a17]).trans (congrArg Prod.fst x23).symm), a17.trans (congrArg Prod.snd x23).symm, w18⟩
      · have k10 : ¬ ((cr ((f_Yd_takeFirst ((yv b M)) c).2) c 5) = 1) := by
          have q : ¬ ((cr (yv b M5) c 5) = 1) := h9
          first | exact q | (simp only [a7] at q; exact q)
        by_cases h24 : M5 (b + 3 + 32 * c) 5 = 2
        · have k25 : (cr ((f_Yd_takeFirst ((yv b M)) c).2) c 5) = 2 := by
            have q : (cr (yv b M5) c 5) = 2 := h24
            first | exact q | (simp only [a7] at q; exact q)
          refine wgo (g' := (M5, 66, [some (.inr (3, b)), some (.inl (nI c)), some (.inr (0, b + 3 + 32 * c)), none], [.inr (0, b + 3 + 32 * c), .inr (3, b)])) [oz 2, oz 0, oz 0] rfl ⟨(by rw [h24]; decide), trivial, trivial, trivial⟩ ?_
          obtain ⟨M26, s27, a28, w29⟩ := ys_Yd_liftOn (d := d) (b := b) (M := M5) (c := c) hb ((hy.2.2.2 _ (Or.inr a7)).2 (Or.inl h24))
          have a28 : yv b M26 = (f_Yd_liftOn ((f_Yd_takeFirst ((yv b M)) c).2) c).2 := a28.trans (show (f_Yd_liftOn ((yv b M5)) c).2 = _ from by first | rfl | simp only [a7])
          have w29 : yf b M M26 := yf_tr w8 w29
          refine wgo (g' := (M26, 70, [some (.inr (3, b)), some (.inl (nI c)), some (.inr (0, b + 3 + 32 * c)), none], [.inl 0])) [oc (none, M26), oz 0] rfl ⟨⟨s27, Nat.le_of_ble_eq_true rfl, Nat.le_of_ble_eq_true rfl, ⟨_, rfl⟩⟩, trivial, trivial⟩ ?_
          have x30 : f_Yd_passSecondOf (yv b M) c = (0, (f_Yd_liftOn ((f_Yd_takeFirst ((yv b M)) c).2) c).2) := by
            unfold f_Yd_passSecondOf
            rw [if_pos k2, if_pos k4, if_neg k10, if_pos k25]
          exact wend ⟨_, rfl, rfl⟩ ⟨congrArg some ((show (0 : Int32) = 0 from by first | rfl | simp only [a7, a28]).trans (congrArg Prod.fst x30).symm), a28.trans (congrArg Prod.snd x30).symm, w29⟩
        · have k25 : ¬ ((cr ((f_Yd_takeFirst ((yv b M)) c).2) c 5) = 2) := by
            have q : ¬ ((cr (yv b M5) c 5) = 2) := h24
            first | exact q | (simp only [a7] at q; exact q)
          by_cases h31 : M5 (b + 3 + 32 * c) 5 = 3
          · have k32 : (cr ((f_Yd_takeFirst ((yv b M)) c).2) c 5) = 3 := by
              have q : (cr (yv b M5) c 5) = 3 := h31
              first | exact q | (simp only [a7] at q; exact q)
            refine wgo (g' := (M5, 89, [some (.inr (3, b)), some (.inl (nI c)), some (.inr (0, b + 3 + 32 * c)), some (.inl (M5 (b + 3 + 32 * c) 0))], [.inl (M5 (b + 3 + 32 * c) 6), .inl (nI c), .inr (3, b)])) [oz 3, oz 0, oz 0, oz 0, oz 0, oz 0, oz 0, oz 0] rfl ⟨(by rw [h31]; decide), trivial, trivial, Nat.le_of_ble_eq_true rfl, trivial, trivial, trivial, trivial, trivial⟩ ?_
            obtain ⟨M33, s34, a35, w36⟩ := ys_Yd_moveToward (d := d) (b := b) (M := M5) (c := c) (t := M5 (b + 3 + 32 * c) 6) hb hc (hy.2.2.2 _ (Or.inr a7)).1
            have a35 : yv b M33 = (f_Yd_moveToward ((f_Yd_takeFirst ((yv b M)) c).2) c (cr ((f_Yd_takeFirst ((yv b M)) c).2) c 6)).2 := a35.trans (show (f_Yd_moveToward ((yv b M5)) c (cr (yv b M5) c 6)).2 = _ from by first | rfl | simp only [a7])
            have w36 : yf b M M33 := yf_tr w8 w36
            refine wgo (g' := (M33, 94, [some (.inr (3, b)), some (.inl (nI c)), some (.inr (0, b + 3 + 32 * c)), some (.inl (M5 (b + 3 + 32 * c) 0))], [.inr (0, b + 3 + 32 * c), .inr (3, b)])) [oc (none, M33), oz 0, oz 0] rfl ⟨⟨s34, Nat.le_of_ble_eq_true rfl, Nat.le_of_ble_eq_true rfl, ⟨_, rfl⟩⟩, trivial, trivial, trivial⟩ ?_
            obtain ⟨M37, s38, a39, w40⟩ := ys_Yd_handleIfThere (d := d + 1) (b := b) (M := M33) (c := c) hb 
            have a39 : yv b M37 = (f_Yd_handleIfThere ((f_Yd_moveToward ((f_Yd_takeFirst ((yv b M)) c).2) c (cr ((f_Yd_takeFirst ((yv b M)) c).2) c 6)).2) c).2 := a39.trans (show (f_Yd_handleIfThere ((yv b M33)) c).2 = _ from by first | rfl | simp only [a7, a35])
            have w40 : yf b M M37 := yf_tr w36 w40
            refine wgo (g' := (M37, 102, [some (.inr (3, b)), some (.inl (nI c)), some (.inr (0, b + 3 + 32 * c)), some (.inl (M5 (b + 3 + 32 * c) 0))], [.inl (M5 (b + 3 + 32 * c) 0), .inl (M37 (b + 3 + 32 * c) 0)])) [oc (none, M37), oz 0, oz 0, oz 0] rfl ⟨⟨s38, Nat.le_of_ble_eq_true rfl, Nat.le_of_ble_eq_true rfl, ⟨_, rfl⟩⟩, trivial, trivial, trivial, trivial⟩ ?_
            by_cases h41 : (M37 (b + 3 + 32 * c) 0) = (M5 (b + 3 + 32 * c) 0)
            · have k42 : (cr ((f_Yd_handleIfThere ((f_Yd_moveToward ((f_Yd_takeFirst ((yv b M)) c).2) c (cr ((f_Yd_takeFirst ((yv b M)) c).2) c 6)).2) c).2) c 0) = (cr ((f_Yd_takeFirst ((yv b M)) c).2) c 0) := by
                have q : (cr (yv b M37) c 0) = (cr (yv b M5) c 0) := h41
                first | exact q | (simp only [a7, a35, a39] at q; exact q)
              refine wgo (g' := (M37, 110, [some (.inr (3, b)), some (.inl (nI c)), some (.inr (0, b + 3 + 32 * c)), some (.inl (M5 (b + 3 + 32 * c) 0))], [.inl 1])) [oz 0, oz 0, oz 0] rfl ⟨(fun z => z h41), trivial, trivial, trivial⟩ ?_
              have x43 : f_Yd_passSecondOf (yv b M) c = (1, (f_Yd_handleIfThere ((f_Yd_moveToward ((f_Yd_takeFirst ((yv b M)) c).2) c (cr ((f_Yd_takeFirst ((yv b M)) c).2) c 6)).2) c).2) := by
                unfold f_Yd_passSecondOf
                rw [if_pos k2, if_pos k4, if_neg k10, if_neg k25, if_pos k32, if_pos k42]
              exact wend ⟨_, rfl, rfl⟩ ⟨congrArg some ((show (1 : Int32) = 1 from by first | rfl | simp only [a7, a35, a39]).trans (congrArg Prod.fst x43).symm), a39.trans (congrArg Prod.snd x43).symm, w40⟩
            · have k44 : ¬ ((cr ((f_Yd_handleIfThere ((f_Yd_moveToward ((f_Yd_takeFirst ((yv b M)) c).2) c (cr ((f_Yd_takeFirst ((yv b M)) c).2) c 6)).2) c).2) c 0) = (cr ((f_Yd_takeFirst ((yv b M)) c).2) c 0)) := by
                have q : ¬ ((cr (yv b M37) c 0) = (cr (yv b M5) c 0)) := h41
                first | exact q | (simp only [a7, a35, a39] at q; exact q)
              refine wgo (g' := (M37, 110, [some (.inr (3, b)), some (.inl (nI c)), some (.inr (0, b + 3 + 32 * c)), some (.inl (M5 (b + 3 + 32 * c) 0))], [.inl 0])) [oz 1, oz 0] rfl ⟨h41, trivial, trivial⟩ ?_
              have x45 : f_Yd_passSecondOf (yv b M) c = (0, (f_Yd_handleIfThere ((f_Yd_moveToward ((f_Yd_takeFirst ((yv b M)) c).2) c (cr ((f_Yd_takeFirst ((yv b M)) c).2) c 6)).2) c).2) := by
                unfold f_Yd_passSecondOf
                rw [if_pos k2, if_pos k4, if_neg k10, if_neg k25, if_pos k32, if_neg k44]
              exact wend ⟨_, rfl, rfl⟩ ⟨congrArg some ((show (0 : Int32) = 0 from by first | rfl | simp only [a7, a35, a39]).trans (congrArg Prod.fst x45).symm), a39.trans (congrArg Prod.snd x45).symm, w40⟩
          · have k32 : ¬ ((cr ((f_Yd_takeFirst ((yv b M)) c).2) c 5) = 3) := by
              have q : ¬ ((cr (yv b M5) c 5) = 3) := h31
              first | exact q | (simp only [a7] at q; exact q)
            by_cases h46 : M5 (b + 3 + 32 * c) 5 = 4
            · have k47 : (cr ((f_Yd_takeFirst ((yv b M)) c).2) c 5) = 4 := by
                have q : (cr (yv b M5) c 5) = 4 := h46
                first | exact q | (simp only [a7] at q; exact q)
              refine wgo (g' := (M5, 73, [some (.inr (3, b)), some (.inl (nI c)), some (.inr (0, b + 3 + 32 * c)), none], [.inr (0, b + 3 + 32 * c), .inr (3, b)])) [oz 4, oz 0, oz 0] rfl ⟨(by rw [h46]; decide), trivial, trivial, trivial⟩ ?_
              obtain ⟨M48, s49, a50, w51⟩ := ys_Yd_setOn (d := d + 1) (b := b) (M := M5) (c := c) hb ((hy.2.2.2 _ (Or.inr a7)).2 (Or.inr h46))
              have a50 : yv b M48 = (f_Yd_setOn ((f_Yd_takeFirst ((yv b M)) c).2) c).2 := a50.trans (show (f_Yd_setOn ((yv b M5)) c).2 = _ from by first | rfl | simp only [a7])
              have w51 : yf b M M48 := yf_tr w8 w51
              refine wgo (g' := (M48, 77, [some (.inr (3, b)), some (.inl (nI c)), some (.inr (0, b + 3 + 32 * c)), none], [.inl 0])) [oc (none, M48), oz 0] rfl ⟨⟨s49, Nat.le_of_ble_eq_true rfl, Nat.le_of_ble_eq_true rfl, ⟨_, rfl⟩⟩, trivial, trivial⟩ ?_
              have x52 : f_Yd_passSecondOf (yv b M) c = (0, (f_Yd_setOn ((f_Yd_takeFirst ((yv b M)) c).2) c).2) := by
                unfold f_Yd_passSecondOf
                rw [if_pos k2, if_pos k4, if_neg k10, if_neg k25, if_neg k32, if_pos k47]
              exact wend ⟨_, rfl, rfl⟩ ⟨congrArg some ((show (0 : Int32) = 0 from by first | rfl | simp only [a7, a50]).trans (congrArg Prod.fst x52).symm), a50.trans (congrArg Prod.snd x52).symm, w51⟩
            · have k47 : ¬ ((cr ((f_Yd_takeFirst ((yv b M)) c).2) c 5) = 4) := by
                have q : ¬ ((cr (yv b M5) c 5) = 4) := h46
                first | exact q | (simp only [a7] at q; exact q)
              refine wgo (g' := (M5, 115, [some (.inr (3, b)), some (.inl (nI c)), some (.inr (0, b + 3 + 32 * c)), none], [.inl (nI c), .inr (3, b), .inl (nI c), .inr (3, b)])) [oz 0, oz 0, oz 0, oz 0, oz 0] rfl ⟨(sw_out (h9) (h24) (h31) (h46)), trivial, trivial, trivial, trivial, trivial⟩ ?_
              have s53 := sm_Yd_placeOutOfTheWay (d := d) (b := b) (M := M5) (c := c) hc (hy.2.2.2 _ (Or.inr a7)).1
              refine wgo (g' := (M5, 118, [some (.inr (3, b)), some (.inl (nI c)), some (.inr (0, b + 3 + 32 * c)), none], [.inl (f_Yd_placeOutOfTheWay (yv b M5) c), .inl (nI c), .inr (3, b)])) [oc (some (f_Yd_placeOutOfTheWay (yv b M5) c), M5)] rfl ⟨⟨s53, Nat.le_of_ble_eq_true rfl, Nat.le_of_ble_eq_true rfl, ⟨_, rfl⟩⟩, trivial⟩ ?_
              obtain ⟨M54, s55, a56, w57⟩ := ys_Yd_moveToward (d := d) (b := b) (M := M5) (c := c) (t := f_Yd_placeOutOfTheWay (yv b M5) c) hb hc (hy.2.2.2 _ (Or.inr a7)).1
              have a56 : yv b M54 = (f_Yd_moveToward ((f_Yd_takeFirst ((yv b M)) c).2) c (f_Yd_placeOutOfTheWay ((f_Yd_takeFirst ((yv b M)) c).2) c)).2 := a56.trans (show (f_Yd_moveToward ((yv b M5)) c (f_Yd_placeOutOfTheWay (yv b M5) c)).2 = _ from by first | rfl | simp only [a7])
              have w57 : yf b M M54 := yf_tr w8 w57
              refine wgo (g' := (M54, 122, [some (.inr (3, b)), some (.inl (nI c)), some (.inr (0, b + 3 + 32 * c)), none], [.inl 2])) [oc (none, M54), oz 0] rfl ⟨⟨s55, Nat.le_of_ble_eq_true rfl, Nat.le_of_ble_eq_true rfl, ⟨_, rfl⟩⟩, trivial, trivial⟩ ?_
              have x58 : f_Yd_passSecondOf (yv b M) c = (2, (f_Yd_moveToward ((f_Yd_takeFirst ((yv b M)) c).2) c (f_Yd_placeOutOfTheWay ((f_Yd_takeFirst ((yv b M)) c).2) c)).2) := by
                unfold f_Yd_passSecondOf
                rw [if_pos k2, if_pos k4, if_neg k10, if_neg k25, if_neg k32, if_neg k47]
              exact wend ⟨_, rfl, rfl⟩ ⟨congrArg some ((show (2 : Int32) = 2 from by first | rfl | simp only [a7, a56]).trans (congrArg Prod.fst x58).symm), a56.trans (congrArg Prod.snd x58).symm, w57⟩
    · have k59 : ¬ ((cr ((yv b M)) c 4) = ((-1))) := by
        have q : ¬ ((cr (yv b M) c 4) = ((-1))) := h3
        exact q
      refine wgo (g' := (M, 33, [some (.inr (3, b)), some (.inl (nI c)), some (.inr (0, b + 3 + 32 * c)), none], [.inl (M (b + 3 + 32 * c) 5)])) [oz 1, oz 0, oz 0] rfl ⟨h3, trivial, trivial, trivial⟩ ?_
      by_cases h60 : M (b + 3 + 32 * c) 5 = 1
      · have k61 : (cr ((yv b M)) c 5) = 1 := by
          have q : (cr (yv b M) c 5) = 1 := h60
          exact q
        refine wgo (g' := (M, 89, [some (.inr (3, b)), some (.inl (nI c)), some (.inr (0, b + 3 + 32 * c)), some (.inl (M (b + 3 + 32 * c) 0))], [.inl (M (b + 3 + 32 * c) 6), .inl (nI c), .inr (3, b)])) [oz 1, oz 0, oz 0, oz 0, oz 0, oz 0, oz 0, oz 0] rfl ⟨(by rw [h60]; decide), trivial, trivial, Nat.le_of_ble_eq_true rfl, trivial, trivial, trivial, trivial, trivial⟩ ?_
        obtain ⟨M62, s63, a64, w65⟩ := ys_Yd_moveToward (d := d) (b := b) (M := M) (c := c) (t := M (b + 3 + 32 * c) 6) hb hc (hy.2.2.2 _ (Or.inl rfl)).1
        have a64 : yv b M62 = (f_Yd_moveToward ((yv b M)) c (cr ((yv b M)) c 6)).2 := a64.trans (show (f_Yd_moveToward ((yv b M)) c (cr (yv b M) c 6)).2 = _ from by first | rfl | simp only [yv])
        have w65 : yf b M M62 := yf_tr yf_rf w65
        refine wgo (g' := (M62, 94, [some (.inr (3, b)), some (.inl (nI c)), some (.inr (0, b + 3 + 32 * c)), some (.inl (M (b + 3 + 32 * c) 0))], [.inr (0, b + 3 + 32 * c), .inr (3, b)])) [oc (none, M62), oz 0, oz 0] rfl ⟨⟨s63, Nat.le_of_ble_eq_true rfl, Nat.le_of_ble_eq_true rfl, ⟨_, rfl⟩⟩, trivial, trivial, trivial⟩ ?_
        obtain ⟨M66, s67, a68, w69⟩ := ys_Yd_handleIfThere (d := d + 1) (b := b) (M := M62) (c := c) hb 
        have a68 : yv b M66 = (f_Yd_handleIfThere ((f_Yd_moveToward ((yv b M)) c (cr ((yv b M)) c 6)).2) c).2 := a68.trans (show (f_Yd_handleIfThere ((yv b M62)) c).2 = _ from by first | rfl | simp only [a64])
        have w69 : yf b M M66 := yf_tr w65 w69
        refine wgo (g' := (M66, 102, [some (.inr (3, b)), some (.inl (nI c)), some (.inr (0, b + 3 + 32 * c)), some (.inl (M (b + 3 + 32 * c) 0))], [.inl (M (b + 3 + 32 * c) 0), .inl (M66 (b + 3 + 32 * c) 0)])) [oc (none, M66), oz 0, oz 0, oz 0] rfl ⟨⟨s67, Nat.le_of_ble_eq_true rfl, Nat.le_of_ble_eq_true rfl, ⟨_, rfl⟩⟩, trivial, trivial, trivial, trivial⟩ ?_
        by_cases h70 : (M66 (b + 3 + 32 * c) 0) = (M (b + 3 + 32 * c) 0)
        · have k71 : (cr ((f_Yd_handleIfThere ((f_Yd_moveToward ((yv b M)) c (cr ((yv b M)) c 6)).2) c).2) c 0) = (cr ((yv b M)) c 0) := by
            have q : (cr (yv b M66) c 0) = (cr (yv b M) c 0) := h70
            first | exact q | (simp only [a64, a68] at q; exact q)
          refine wgo (g' := (M66, 110, [some (.inr (3, b)), some (.inl (nI c)), some (.inr (0, b + 3 + 32 * c)), some (.inl (M (b + 3 + 32 * c) 0))], [.inl 1])) [oz 0, oz 0, oz 0] rfl ⟨(fun z => z h70), trivial, trivial, trivial⟩ ?_
          have x72 : f_Yd_passSecondOf (yv b M) c = (1, (f_Yd_handleIfThere ((f_Yd_moveToward ((yv b M)) c (cr ((yv b M)) c 6)).2) c).2) := by
            unfold f_Yd_passSecondOf
            rw [if_pos k2, if_neg k59, if_pos k61, if_pos k71]
          exact wend ⟨_, rfl, rfl⟩ ⟨congrArg some ((show (1 : Int32) = 1 from by first | rfl | simp only [a64, a68]).trans (congrArg Prod.fst x72).symm), a68.trans (congrArg Prod.snd x72).symm, w69⟩
        · have k73 : ¬ ((cr ((f_Yd_handleIfThere ((f_Yd_moveToward ((yv b M)) c (cr ((yv b M)) c 6)).2) c).2) c 0) = (cr ((yv b M)) c 0)) := by
            have q : ¬ ((cr (yv b M66) c 0) = (cr (yv b M) c 0)) := h70
            first | exact q | (simp only [a64, a68] at q; exact q)
          refine wgo (g' := (M66, 110, [some (.inr (3, b)), some (.inl (nI c)), some (.inr (0, b + 3 + 32 * c)), some (.inl (M (b + 3 + 32 * c) 0))], [.inl 0])) [oz 1, oz 0] rfl ⟨h70, trivial, trivial⟩ ?_
          have x74 : f_Yd_passSecondOf (yv b M) c = (0, (f_Yd_handleIfThere ((f_Yd_moveToward ((yv b M)) c (cr ((yv b M)) c 6)).2) c).2) := by
            unfold f_Yd_passSecondOf
            rw [if_pos k2, if_neg k59, if_pos k61, if_neg k73]
          exact wend ⟨_, rfl, rfl⟩ ⟨congrArg some ((show (0 : Int32) = 0 from by first | rfl | simp only [a64, a68]).trans (congrArg Prod.fst x74).symm), a68.trans (congrArg Prod.snd x74).symm, w69⟩
      · have k61 : ¬ ((cr ((yv b M)) c 5) = 1) := by
          have q : ¬ ((cr (yv b M) c 5) = 1) := h60
          exact q
        by_cases h75 : M (b + 3 + 32 * c) 5 = 2
        · have k76 : (cr ((yv b M)) c 5) = 2 := by
            have q : (cr (yv b M) c 5) = 2 := h75
            exact q
          refine wgo (g' := (M, 66, [some (.inr (3, b)), some (.inl (nI c)), some (.inr (0, b + 3 + 32 * c)), none], [.inr (0, b + 3 + 32 * c), .inr (3, b)])) [oz 2, oz 0, oz 0] rfl ⟨(by rw [h75]; decide), trivial, trivial, trivial⟩ ?_
          obtain ⟨M77, s78, a79, w80⟩ := ys_Yd_liftOn (d := d) (b := b) (M := M) (c := c) hb ((hy.2.2.2 _ (Or.inl rfl)).2 (Or.inl h75))
          have a79 : yv b M77 = (f_Yd_liftOn ((yv b M)) c).2 := a79.trans (show (f_Yd_liftOn ((yv b M)) c).2 = _ from by first | rfl | simp only [yv])
          have w80 : yf b M M77 := yf_tr yf_rf w80
          refine wgo (g' := (M77, 70, [some (.inr (3, b)), some (.inl (nI c)), some (.inr (0, b + 3 + 32 * c)), none], [.inl 0])) [oc (none, M77), oz 0] rfl ⟨⟨s78, Nat.le_of_ble_eq_true rfl, Nat.le_of_ble_eq_true rfl, ⟨_, rfl⟩⟩, trivial, trivial⟩ ?_
          have x81 : f_Yd_passSecondOf (yv b M) c = (0, (f_Yd_liftOn ((yv b M)) c).2) := by
            unfold f_Yd_passSecondOf
            rw [if_pos k2, if_neg k59, if_neg k61, if_pos k76]
          exact wend ⟨_, rfl, rfl⟩ ⟨congrArg some ((show (0 : Int32) = 0 from by first | rfl | simp only [a79]).trans (congrArg Prod.fst x81).symm), a79.trans (congrArg Prod.snd x81).symm, w80⟩
        · have k76 : ¬ ((cr ((yv b M)) c 5) = 2) := by
            have q : ¬ ((cr (yv b M) c 5) = 2) := h75
            exact q
          by_cases h82 : M (b + 3 + 32 * c) 5 = 3
          · have k83 : (cr ((yv b M)) c 5) = 3 := by
              have q : (cr (yv b M) c 5) = 3 := h82
              exact q
            refine wgo (g' := (M, 89, [some (.inr (3, b)), some (.inl (nI c)), some (.inr (0, b + 3 + 32 * c)), some (.inl (M (b + 3 + 32 * c) 0))], [.inl (M (b + 3 + 32 * c) 6), .inl (nI c), .inr (3, b)])) [oz 3, oz 0, oz 0, oz 0, oz 0, oz 0, oz 0, oz 0] rfl ⟨(by rw [h82]; decide), trivial, trivial, Nat.le_of_ble_eq_true rfl, trivial, trivial, trivial, trivial, trivial⟩ ?_
            obtain ⟨M84, s85, a86, w87⟩ := ys_Yd_moveToward (d := d) (b := b) (M := M) (c := c) (t := M (b + 3 + 32 * c) 6) hb hc (hy.2.2.2 _ (Or.inl rfl)).1
            have a86 : yv b M84 = (f_Yd_moveToward ((yv b M)) c (cr ((yv b M)) c 6)).2 := a86.trans (show (f_Yd_moveToward ((yv b M)) c (cr (yv b M) c 6)).2 = _ from by first | rfl | simp only [yv])
            have w87 : yf b M M84 := yf_tr yf_rf w87
            refine wgo (g' := (M84, 94, [some (.inr (3, b)), some (.inl (nI c)), some (.inr (0, b + 3 + 32 * c)), some (.inl (M (b + 3 + 32 * c) 0))], [.inr (0, b + 3 + 32 * c), .inr (3, b)])) [oc (none, M84), oz 0, oz 0] rfl ⟨⟨s85, Nat.le_of_ble_eq_true rfl, Nat.le_of_ble_eq_true rfl, ⟨_, rfl⟩⟩, trivial, trivial, trivial⟩ ?_
            obtain ⟨M88, s89, a90, w91⟩ := ys_Yd_handleIfThere (d := d + 1) (b := b) (M := M84) (c := c) hb 
            have a90 : yv b M88 = (f_Yd_handleIfThere ((f_Yd_moveToward ((yv b M)) c (cr ((yv b M)) c 6)).2) c).2 := a90.trans (show (f_Yd_handleIfThere ((yv b M84)) c).2 = _ from by first | rfl | simp only [a86])
            have w91 : yf b M M88 := yf_tr w87 w91
            refine wgo (g' := (M88, 102, [some (.inr (3, b)), some (.inl (nI c)), some (.inr (0, b + 3 + 32 * c)), some (.inl (M (b + 3 + 32 * c) 0))], [.inl (M (b + 3 + 32 * c) 0), .inl (M88 (b + 3 + 32 * c) 0)])) [oc (none, M88), oz 0, oz 0, oz 0] rfl ⟨⟨s89, Nat.le_of_ble_eq_true rfl, Nat.le_of_ble_eq_true rfl, ⟨_, rfl⟩⟩, trivial, trivial, trivial, trivial⟩ ?_
            by_cases h92 : (M88 (b + 3 + 32 * c) 0) = (M (b + 3 + 32 * c) 0)
            · have k93 : (cr ((f_Yd_handleIfThere ((f_Yd_moveToward ((yv b M)) c (cr ((yv b M)) c 6)).2) c).2) c 0) = (cr ((yv b M)) c 0) := by
                have q : (cr (yv b M88) c 0) = (cr (yv b M) c 0) := h92
                first | exact q | (simp only [a86, a90] at q; exact q)
              refine wgo (g' := (M88, 110, [some (.inr (3, b)), some (.inl (nI c)), some (.inr (0, b + 3 + 32 * c)), some (.inl (M (b + 3 + 32 * c) 0))], [.inl 1])) [oz 0, oz 0, oz 0] rfl ⟨(fun z => z h92), trivial, trivial, trivial⟩ ?_
              have x94 : f_Yd_passSecondOf (yv b M) c = (1, (f_Yd_handleIfThere ((f_Yd_moveToward ((yv b M)) c (cr ((yv b M)) c 6)).2) c).2) := by
                unfold f_Yd_passSecondOf
                rw [if_pos k2, if_neg k59, if_neg k61, if_neg k76, if_pos k83, if_pos k93]
              exact wend ⟨_, rfl, rfl⟩ ⟨congrArg some ((show (1 : Int32) = 1 from by first | rfl | simp only [a86, a90]).trans (congrArg Prod.fst x94).symm), a90.trans (congrArg Prod.snd x94).symm, w91⟩
            · have k95 : ¬ ((cr ((f_Yd_handleIfThere ((f_Yd_moveToward ((yv b M)) c (cr ((yv b M)) c 6)).2) c).2) c 0) = (cr ((yv b M)) c 0)) := by
                have q : ¬ ((cr (yv b M88) c 0) = (cr (yv b M) c 0)) := h92
                first | exact q | (simp only [a86, a90] at q; exact q)
              refine wgo (g' := (M88, 110, [some (.inr (3, b)), some (.inl (nI c)), some (.inr (0, b + 3 + 32 * c)), some (.inl (M (b + 3 + 32 * c) 0))], [.inl 0])) [oz 1, oz 0] rfl ⟨h92, trivial, trivial⟩ ?_
              have x96 : f_Yd_passSecondOf (yv b M) c = (0, (f_Yd_handleIfThere ((f_Yd_moveToward ((yv b M)) c (cr ((yv b M)) c 6)).2) c).2) := by
                unfold f_Yd_passSecondOf
                rw [if_pos k2, if_neg k59, if_neg k61, if_neg k76, if_pos k83, if_neg k95]
              exact wend ⟨_, rfl, rfl⟩ ⟨congrArg some ((show (0 : Int32) = 0 from by first | rfl | simp only [a86, a90]).trans (congrArg Prod.fst x96).symm), a90.trans (congrArg Prod.snd x96).symm, w91⟩
          · have k83 : ¬ ((cr ((yv b M)) c 5) = 3) := by
              have q : ¬ ((cr (yv b M) c 5) = 3) := h82
              exact q
            by_cases h97 : M (b + 3 + 32 * c) 5 = 4
            · have k98 : (cr ((yv b M)) c 5) = 4 := by
                have q : (cr (yv b M) c 5) = 4 := h97
                exact q
              refine wgo (g' := (M, 73, [some (.inr (3, b)), some (.inl (nI c)), some (.inr (0, b + 3 + 32 * c)), none], [.inr (0, b + 3 + 32 * c), .inr (3, b)])) [oz 4, oz 0, oz 0] rfl ⟨(by rw [h97]; decide), trivial, trivial, trivial⟩ ?_
              obtain ⟨M99, s100, a101, w102⟩ := ys_Yd_setOn (d := d + 1) (b := b) (M := M) (c := c) hb ((hy.2.2.2 _ (Or.inl rfl)).2 (Or.inr h97))
              have a101 : yv b M99 = (f_Yd_setOn ((yv b M)) c).2 := a101.trans (show (f_Yd_setOn ((yv b M)) c).2 = _ from by first | rfl | simp only [yv])
              have w102 : yf b M M99 := yf_tr yf_rf w102
              refine wgo (g' := (M99, 77, [some (.inr (3, b)), some (.inl (nI c)), some (.inr (0, b + 3 + 32 * c)), none], [.inl 0])) [oc (none, M99), oz 0] rfl ⟨⟨s100, Nat.le_of_ble_eq_true rfl, Nat.le_of_ble_eq_true rfl, ⟨_, rfl⟩⟩, trivial, trivial⟩ ?_
              have x103 : f_Yd_passSecondOf (yv b M) c = (0, (f_Yd_setOn ((yv b M)) c).2) := by
                unfold f_Yd_passSecondOf
                rw [if_pos k2, if_neg k59, if_neg k61, if_neg k76, if_neg k83, if_pos k98]
              exact wend ⟨_, rfl, rfl⟩ ⟨congrArg some ((show (0 : Int32) = 0 from by first | rfl | simp only [a101]).trans (congrArg Prod.fst x103).symm), a101.trans (congrArg Prod.snd x103).symm, w102⟩
            · have k98 : ¬ ((cr ((yv b M)) c 5) = 4) := by
                have q : ¬ ((cr (yv b M) c 5) = 4) := h97
                exact q
              refine wgo (g' := (M, 115, [some (.inr (3, b)), some (.inl (nI c)), some (.inr (0, b + 3 + 32 * c)), none], [.inl (nI c), .inr (3, b), .inl (nI c), .inr (3, b)])) [oz 0, oz 0, oz 0, oz 0, oz 0] rfl ⟨(sw_out (h60) (h75) (h82) (h97)), trivial, trivial, trivial, trivial, trivial⟩ ?_
              have s104 := sm_Yd_placeOutOfTheWay (d := d) (b := b) (M := M) (c := c) hc (hy.2.2.2 _ (Or.inl rfl)).1
              refine wgo (g' := (M, 118, [some (.inr (3, b)), some (.inl (nI c)), some (.inr (0, b + 3 + 32 * c)), none], [.inl (f_Yd_placeOutOfTheWay (yv b M) c), .inl (nI c), .inr (3, b)])) [oc (some (f_Yd_placeOutOfTheWay (yv b M) c), M)] rfl ⟨⟨s104, Nat.le_of_ble_eq_true rfl, Nat.le_of_ble_eq_true rfl, ⟨_, rfl⟩⟩, trivial⟩ ?_
              obtain ⟨M105, s106, a107, w108⟩ := ys_Yd_moveToward (d := d) (b := b) (M := M) (c := c) (t := f_Yd_placeOutOfTheWay (yv b M) c) hb hc (hy.2.2.2 _ (Or.inl rfl)).1
              have a107 : yv b M105 = (f_Yd_moveToward ((yv b M)) c (f_Yd_placeOutOfTheWay ((yv b M)) c)).2 := a107.trans (show (f_Yd_moveToward ((yv b M)) c (f_Yd_placeOutOfTheWay (yv b M) c)).2 = _ from by first | rfl | simp only [yv])
              have w108 : yf b M M105 := yf_tr yf_rf w108
              refine wgo (g' := (M105, 122, [some (.inr (3, b)), some (.inl (nI c)), some (.inr (0, b + 3 + 32 * c)), none], [.inl 2])) [oc (none, M105), oz 0] rfl ⟨⟨s106, Nat.le_of_ble_eq_true rfl, Nat.le_of_ble_eq_true rfl, ⟨_, rfl⟩⟩, trivial, trivial⟩ ?_
              have x109 : f_Yd_passSecondOf (yv b M) c = (2, (f_Yd_moveToward ((yv b M)) c (f_Yd_placeOutOfTheWay ((yv b M)) c)).2) := by
                unfold f_Yd_passSecondOf
                rw [if_pos k2, if_neg k59, if_neg k61, if_neg k76, if_neg k83, if_neg k98]
              exact wend ⟨_, rfl, rfl⟩ ⟨congrArg some ((show (2 : Int32) = 2 from by first | rfl | simp only [a107]).trans (congrArg Prod.fst x109).symm), a107.trans (congrArg Prod.snd x109).symm, w108⟩
  · have k110 : ¬ ((cr ((yv b M)) c 3) = 0) := by
      have q : ¬ ((cr (yv b M) c 3) = 0) := h1
      exact q
    refine wgo (g' := (M, 15, [some (.inr (3, b)), some (.inl (nI c)), some (.inr (0, b + 3 + 32 * c)), none], [.inl 3])) [oz 0, oz 0] rfl ⟨h1, trivial, trivial⟩ ?_
    have x111 : f_Yd_passSecondOf (yv b M) c = (3, (yv b M)) := by
      unfold f_Yd_passSecondOf
      rw [if_neg k110]
    exact wend ⟨_, rfl, rfl⟩ ⟨congrArg some ((show (3 : Int32) = 3 from by first | rfl | simp only [yv]).trans (congrArg Prod.fst x111).symm), (congrArg Prod.snd x111).symm, yf_rf⟩
end
section
theorem nI_sm {i n : Nat} {x : Int32} (hx : x = nI n) (hn : n ≤ 3) (hi : i ≤ n ∨ i = 1) (h : ¬ x ≤ nI i) : i < n := by
  subst hx
  rcases Nat.lt_or_ge i n with q | q
  · exact q
  · exact absurd (nI_le q (by omega)) h
theorem f_ps_ok (A : ya) (c : Nat) : okx 4 (f_Yd_passSecondOf A c).1 := by
  unfold f_Yd_passSecondOf
  repeat' split
  all_goals first | exact okx_nI (j := 0) (by decide) (by decide) | exact okx_nI (j := 1) (by decide) (by decide) | exact okx_nI (j := 2) (by decide) (by decide) | exact okx_nI (j := 3) (by decide) (by decide)
/-- crane i's second, counted -/
def f_tick (A : ya) (i : Nat) : ya := use ((f_Yd_passSecondOf A i).2) i (ix ((f_Yd_passSecondOf A i).1)) ((se ((f_Yd_passSecondOf A i).2) i (ix ((f_Yd_passSecondOf A i).1))) + 1)
def f_ps2 : Nat → ya → Nat → Int32 × ya
  | 0, A, _ => (0, A)
  | r + 1, A, i => (if (sc (A) 0) ≤ (nI i) then (0, A) else (f_ps2 r (usc (A) 5 (if ((cr (A) i 0) - (cr (A) (i - 1) 0)) < (sc (A) 5) then ((cr (A) i 0) - (cr (A) (i - 1) 0)) else (sc (A) 5))) (i + 1)))
set_option maxRecDepth 20000 in
set_option maxHeartbeats 1000000 in
theorem lp_ps2 {d b : Nat} {M : mm_M}   (hb : b = 8 ∨ b = 16) {n : Nat} (hn3 : n ≤ 3) : ∀ (r : Nat) (A : ya) (M1 : mm_M) (i : Nat), yv b M1 = A → yf b M M1 → (sc A 0 = nI n) → (1 ≤ i) → (i ≤ n ∨ i = 1) → (n + 1 < i + r) → mm_Wp pg_Yd_passSecond rt_Yd_passSecond (ct_Sem (d + 0)) (M1, 47, [some (.inr (3, b)), some (.inl (nI i))], []) (yQ b M (none) (f_ps2 r A i).2) := by
  intro r
  induction r with
  | zero =>
    intro A M1 i hA hf hn h1i hi hr
    exfalso; omega
  | succ r ih =>
    intro A M1 i hA hf hn h1i hi hr
    refine wgo (g' := (M1, 52, [some (.inr (3, b)), some (.inl (nI i))], [.inl (M1 b 0), .inl (nI i)])) [oz 0, oz 0, oz 0] rfl ⟨trivial, trivial, trivial, trivial⟩ ?_
    by_cases h1 : (M1 b 0) ≤ (nI i)
    · have k2 : (sc (A) 0) ≤ (nI i) := by
        have q : (sc (yv b M1) 0) ≤ (nI i) := h1
        first | exact q | (simp only [hA] at q; exact q)
      refine wgo (g' := (M1, 93, [some (.inr (3, b)), some (.inl (nI i))], [])) [oz 1] rfl ⟨h1, trivial⟩ ?_
      have x3 : f_ps2 (r + 1) A i = (0, A) := by
        rw [f_ps2]
        rw [if_pos k2]
      exact wend ⟨rfl, rfl⟩ ⟨rfl, hA.trans (congrArg Prod.snd x3).symm, hf⟩
    · have k4 : ¬ ((sc (A) 0) ≤ (nI i)) := by
        have q : ¬ ((sc (yv b M1) 0) ≤ (nI i)) := h1
        first | exact q | (simp only [hA] at q; exact q)
      refine wgo (g' := (mm_up M1 b 5 (if ((M1 (b + 3 + 32 * i) 0) - (M1 (b + 3 + 32 * (i - 1)) 0)) < (M1 b 5) then ((M1 (b + 3 + 32 * i) 0) - (M1 (b + 3 + 32 * (i - 1)) 0)) else (M1 b 5)), 87, [some (.inr (3, b)), some (.inl (nI i))], [])) [oz 0, oz 0, oz 0, oz 0, oz 0, oz 0, oz 0, oz i, oz 0, oz 0, oz 0, oz 0, oz 0, oz 0, oz (i - 1), oz 0, oz 0, oz 0, oz 0] rfl ⟨h1, trivial, trivial, trivial, trivial, trivial, trivial, ⟨rfl, Nat.lt_of_lt_of_le (nI_sm hn hn3 hi k4) hn3⟩, trivial, trivial, trivial, trivial, trivial, trivial, ⟨nI_m1 (by omega), (show i - 1 < 3 from Nat.lt_of_le_of_lt (Nat.sub_le i 1) (Nat.lt_of_lt_of_le (nI_sm hn hn3 hi k4) hn3))⟩, trivial, trivial, Nat.le_of_ble_eq_true rfl, trivial, trivial⟩ ?_
      generalize e6 : mm_up M1 b 5 (if ((M1 (b + 3 + 32 * i) 0) - (M1 (b + 3 + 32 * (i - 1)) 0)) < (M1 b 5) then ((M1 (b + 3 + 32 * i) 0) - (M1 (b + 3 + 32 * (i - 1)) 0)) else (M1 b 5)) = M5
      have a7 : yv b M5 = usc (A) 5 (if ((cr (A) i 0) - (cr (A) (i - 1) 0)) < (sc (A) 5) then ((cr (A) i 0) - (cr (A) (i - 1) 0)) else (sc (A) 5)) := by
        rw [← e6]
        refine yv_sc.trans ?_
        show usc ((yv b M1)) 5 (if ((cr (yv b M1) i 0) - (cr (yv b M1) (i - 1) 0)) < (sc (yv b M1) 5) then ((cr (yv b M1) i 0) - (cr (yv b M1) (i - 1) 0)) else (sc (yv b M1) 5)) = _
        first | rfl | simp only [hA]
      have w8 : yf b M M5 := by rw [← e6]; exact yf_up hf (by unfold yo; omega)
      refine wgo (g' := (M5, 47, [some (.inr (3, b)), some (.inl ((nI i) + 1))], [])) [oz 0, oz 0] rfl ⟨trivial, trivial, trivial⟩ ?_
      rw [nI_1 i]
      have x9 : f_ps2 (r + 1) A i = f_ps2 r (usc (A) 5 (if ((cr (A) i 0) - (cr (A) (i - 1) 0)) < (sc (A) 5) then ((cr (A) i 0) - (cr (A) (i - 1) 0)) else (sc (A) 5))) (i + 1) := by
        rw [f_ps2]
        rw [if_neg k4]
      rw [x9]
      exact ih _ M5 (i + 1) a7 w8 hn (by omega) (Or.inl (nI_sm hn hn3 hi k4)) (by omega)
def f_ps1 : Nat → ya → Nat → Int32 × ya
  | 0, A, _ => (0, A)
  | r + 1, A, i => (if (sc (A) 0) ≤ (nI i) then (f_ps2 4 (usc (A) 4 ((sc (A) 4) + 1)) 1) else (f_ps1 r (use ((f_Yd_passSecondOf (A) i).2) i (ix ((f_Yd_passSecondOf (A) i).1)) ((se ((f_Yd_passSecondOf (A) i).2) i (ix ((f_Yd_passSecondOf (A) i).1))) + 1)) (i + 1)))
set_option maxRecDepth 20000 in
set_option maxHeartbeats 1000000 in
theorem lp_ps1 {d b : Nat} {M : mm_M}   (hb : b = 8 ∨ b = 16) {n : Nat} {I : ya → Prop} (hn3 : n ≤ 3) (hI0 : ∀ A, I A → ynn A n) (hI1 : ∀ A i, I A → i < n → yone A n i) (hI2 : ∀ A i, I A → i < n → I (f_tick A i)) : ∀ (r : Nat) (A : ya) (M1 : mm_M) (i : Nat), yv b M1 = A → yf b M M1 → (I A) → (i ≤ n) → (n < i + r) → mm_Wp pg_Yd_passSecond rt_Yd_passSecond (ct_Sem (d + 3)) (M1, 2, [some (.inr (3, b)), some (.inl (nI i))], []) (yQ b M (none) (f_ps1 r A i).2) := by
  intro r
  induction r with
  | zero =>
    intro A M1 i hA hf hI hi hr
    exfalso; omega
  | succ r ih =>
    intro A M1 i hA hf hI hi hr
    refine wgo (g' := (M1, 7, [some (.inr (3, b)), some (.inl (nI i))], [.inl (M1 b 0), .inl (nI i)])) [oz 0, oz 0, oz 0] rfl ⟨trivial, trivial, trivial, trivial⟩ ?_
    by_cases h1 : (M1 b 0) ≤ (nI i)
    · have k2 : (sc (A) 0) ≤ (nI i) := by
        have q : (sc (yv b M1) 0) ≤ (nI i) := h1
        first | exact q | (simp only [hA] at q; exact q)
      refine wgo (g' := (mm_up M1 b 4 ((M1 b 4) + 1), 45, [some (.inr (3, b)), some (.inl (nI i))], [])) [oz 1, oz 0, oz 0, oz 0, oz 0, oz 0, oz 0] rfl ⟨h1, trivial, trivial, trivial, trivial, trivial, trivial, trivial⟩ ?_
      generalize e4 : mm_up M1 b 4 ((M1 b 4) + 1) = M3
      have a5 : yv b M3 = usc (A) 4 ((sc (A) 4) + 1) := by
        rw [← e4]
        refine yv_sc.trans ?_
        show usc ((yv b M1)) 4 ((sc (yv b M1) 4) + 1) = _
        first | rfl | simp only [hA]
      have w6 : yf b M M3 := by rw [← e4]; exact yf_up hf (by unfold yo; omega)
      refine wgo (g' := (M3, 47, [some (.inr (3, b)), some (.inl 1)], [])) [oz 0, oz 0] rfl ⟨trivial, Nat.le_of_ble_eq_true rfl, trivial⟩ ?_
      have x7 : f_ps1 (r + 1) A i = f_ps2 4 (usc (A) 4 ((sc (A) 4) + 1)) 1 := by
        rw [f_ps1]
        rw [if_pos k2]
      rw [x7]
      exact lp_ps2 (d := d + 3) (b := b) (M := M) hb hn3 4 _ M3 1 a5 w6 (hI0 _ hI).1 (Nat.le_refl 1) (Or.inr rfl) (by omega)
    · have k8 : ¬ ((sc (A) 0) ≤ (nI i)) := by
        have q : ¬ ((sc (yv b M1) 0) ≤ (nI i)) := h1
        first | exact q | (simp only [hA] at q; exact q)
      refine wgo (g' := (M1, 21, [some (.inr (3, b)), some (.inl (nI i))], [.inl (nI i), .inr (3, b), .inr (6, b + 3 + 32 * i + 1)])) [oz 0, oz 0, oz 0, oz 0, oz i, oz 0, oz 0, oz 0] rfl ⟨h1, trivial, trivial, trivial, ⟨rfl, Nat.lt_of_lt_of_le (nI_sl (hI0 _ hI).1 (by omega) hi k8) hn3⟩, trivial, trivial, trivial, trivial⟩ ?_
      obtain ⟨M9, s10, a11, w12⟩ := ys_Yd_passSecondOf (d := d) (b := b) (M := M1) (c := i) hb (Nat.lt_of_lt_of_le (nI_sl (hI0 _ hI).1 (by omega) hi k8) hn3) (by rw [hA]; exact hI1 _ _ hI (nI_sl (hI0 _ hI).1 (by omega) hi k8))
      have a11 : yv b M9 = (f_Yd_passSecondOf (A) i).2 := a11.trans (show (f_Yd_passSecondOf ((yv b M1)) i).2 = _ from by first | rfl | simp only [hA])
      have w12 : yf b M M9 := yf_tr hf w12
      refine wgo (g' := (mm_up M9 (b + 3 + 32 * i + 1) (ix ((f_Yd_passSecondOf ((yv b M1)) i).1)) ((M9 (b + 3 + 32 * i + 1) (ix ((f_Yd_passSecondOf ((yv b M1)) i).1))) + 1), 29, [some (.inr (3, b)), some (.inl (nI i))], [])) [oc (some ((f_Yd_passSecondOf ((yv b M1)) i).1), M9), oz 0, oz (ix ((f_Yd_passSecondOf ((yv b M1)) i).1)), oz 0, oz 0, oz (ix ((f_Yd_passSecondOf ((yv b M1)) i).1))] rfl ⟨⟨s10, Nat.le_of_ble_eq_true rfl, Nat.le_of_ble_eq_true rfl, ⟨_, rfl⟩⟩, trivial, (f_ps_ok _ _), trivial, trivial, (f_ps_ok _ _), trivial⟩ ?_
      generalize e14 : mm_up M9 (b + 3 + 32 * i + 1) (ix ((f_Yd_passSecondOf ((yv b M1)) i).1)) ((M9 (b + 3 + 32 * i + 1) (ix ((f_Yd_passSecondOf ((yv b M1)) i).1))) + 1) = M13
      have a15 : yv b M13 = use ((f_Yd_passSecondOf (A) i).2) i (ix ((f_Yd_passSecondOf (A) i).1)) ((se ((f_Yd_passSecondOf (A) i).2) i (ix ((f_Yd_passSecondOf (A) i).1))) + 1) := by
        rw [← e14]
        refine yv_se.trans ?_
        show use ((yv b M9)) i (ix ((f_Yd_passSecondOf ((yv b M1)) i).1)) ((se (yv b M9) i (ix ((f_Yd_passSecondOf ((yv b M1)) i).1))) + 1) = _
        first | rfl | simp only [hA, a11]
      have w16 : yf b M M13 := by rw [← e14]; exact yf_up w12 (by unfold yo; omega)
      refine wgo (g' := (M13, 2, [some (.inr (3, b)), some (.inl ((nI i) + 1))], [])) [oz 0, oz 0] rfl ⟨trivial, trivial, trivial⟩ ?_
      rw [nI_1 i]
      have x17 : f_ps1 (r + 1) A i = f_ps1 r (use ((f_Yd_passSecondOf (A) i).2) i (ix ((f_Yd_passSecondOf (A) i).1)) ((se ((f_Yd_passSecondOf (A) i).2) i (ix ((f_Yd_passSecondOf (A) i).1))) + 1)) (i + 1) := by
        rw [f_ps1]
        rw [if_neg k8]
      rw [x17]
      exact ih _ M13 (i + 1) a15 w16 (hI2 _ _ hI (nI_sl (hI0 _ hI).1 (by omega) hi k8)) (nI_sl (hI0 _ hI).1 (by omega) hi k8) (by omega)
def f_Yd_passSecond (A : ya)  : Int32 × ya := (f_ps1 4 (A) 0)
set_option maxRecDepth 20000 in
set_option maxHeartbeats 1000000 in
theorem ys_Yd_passSecond {d b : Nat} {M : mm_M}  (hb : b = 8 ∨ b = 16) {n : Nat} {I : ya → Prop} (hn3 : n ≤ 3) (hI0 : ∀ A, I A → ynn A n) (hI1 : ∀ A i, I A → i < n → yone A n i) (hI2 : ∀ A i, I A → i < n → I (f_tick A i)) (hI : I (yv b M)) : YS (d + 4) 24 b M [.inr (3, b)] (none) (f_Yd_passSecond (yv b M) ).2 := by
  refine YS_of (Nat.le_of_ble_eq_true rfl) ?_
  show mm_Wp pg_Yd_passSecond rt_Yd_passSecond (ct_Sem (d + 3)) (M, 0, [some (.inr (3, b)), none], []) _
  refine wgo (g' := (M, 2, [some (.inr (3, b)), some (.inl 0)], [])) [oz 0, oz 0] rfl ⟨trivial, Nat.le_of_ble_eq_true rfl, trivial⟩ ?_
  have x1 : f_Yd_passSecond (yv b M) = f_ps1 4 ((yv b M)) 0 := by
    unfold f_Yd_passSecond
    rfl
  rw [x1]
  exact lp_ps1 (d := d) (b := b) (M := M) hb hn3 hI0 hI1 hI2 4 _ M 0 rfl yf_rf hI (Nat.zero_le _) (by omega)
def f_lay : Nat → ya → Int32 → Int32 → Int32 → Int32 → Nat → Int32 × ya
  | 0, A, _, _, _, _, _ => (0, A)
  | r + 1, A, p1, p2, p3, p4, i => (if (sc (A) 0) ≤ (nI i) then (0, A) else (f_lay r ((f_Cr_stand (A) i ((nI i) * (sc (A) 1)) 0 200).2) p1 p2 p3 p4 (i + 1)))
set_option maxRecDepth 20000 in
set_option maxHeartbeats 1000000 in
theorem lp_lay {d b : Nat} {M : mm_M} {p1 : Int32} {p2 : Int32} {p3 : Int32} {p4 : Int32}  (hb : b = 8 ∨ b = 16) {n : Nat} (hn3 : n ≤ 3) : ∀ (r : Nat) (A : ya) (M1 : mm_M) (i : Nat), yv b M1 = A → yf b M M1 → (sc A 0 = nI n) → (i ≤ n) → (n < i + r) → mm_Wp pg_Yd_lay rt_Yd_lay (ct_Sem (d + 1)) (M1, 24, [some (.inr (3, b)), some (.inl p1), some (.inl p2), some (.inl p3), some (.inl p4), some (.inl (nI i))], []) (yQ b M (none) (f_lay r A p1 p2 p3 p4 i).2) := by
  intro r
  induction r with
  | zero =>
    intro A M1 i hA hf hn hi hr
    exfalso; omega
  | succ r ih =>
    intro A M1 i hA hf hn hi hr
    refine wgo (g' := (M1, 30, [some (.inr (3, b)), some (.inl p1), some (.inl p2), some (.inl p3), some (.inl p4), some (.inl (nI i))], [.inl (M1 b 0), .inl (nI i)])) [oz 0, oz 0, oz 0] rfl ⟨trivial, trivial, trivial, trivial⟩ ?_
    by_cases h1 : (M1 b 0) ≤ (nI i)
    · have k2 : (sc (A) 0) ≤ (nI i) := by
        have q : (sc (yv b M1) 0) ≤ (nI i) := h1
        first | exact q | (simp only [hA] at q; exact q)
      refine wgo (g' := (M1, 60, [some (.inr (3, b)), some (.inl p1), some (.inl p2), some (.inl p3), some (.inl p4), some (.inl (nI i))], [])) [oz 1] rfl ⟨h1, trivial⟩ ?_
      have x3 : f_lay (r + 1) A p1 p2 p3 p4 i = (0, A) := by
        rw [f_lay]
        rw [if_pos k2]
      exact wend ⟨rfl, rfl⟩ ⟨rfl, hA.trans (congrArg Prod.snd x3).symm, hf⟩
    · have k4 : ¬ ((sc (A) 0) ≤ (nI i)) := by
        have q : ¬ ((sc (yv b M1) 0) ≤ (nI i)) := h1
        first | exact q | (simp only [hA] at q; exact q)
      refine wgo (g' := (M1, 51, [some (.inr (3, b)), some (.inl p1), some (.inl p2), some (.inl p3), some (.inl p4), some (.inl (nI i))], [.inl 200, .inl 0, .inl ((nI i) * (M1 b 1)), .inr (0, b + 3 + 32 * i)])) [oz 0, oz 0, oz 0, oz 0, oz i, oz 0, oz 0, oz 0, oz 0, oz 0, oz 0] rfl ⟨h1, trivial, trivial, trivial, ⟨rfl, Nat.lt_of_lt_of_le (nI_sl hn (by omega) hi k4) hn3⟩, trivial, trivial, trivial, trivial, trivial, trivial, trivial⟩ ?_
      obtain ⟨M5, s6, a7, w8⟩ := ys_Cr_stand (d := d) (b := b) (M := M1) (c := i) (p := (nI i) * (M1 b 1)) (l := 0) (g := 200) hb 
      have a7 : yv b M5 = (f_Cr_stand (A) i ((nI i) * (sc (A) 1)) 0 200).2 := a7.trans (show (f_Cr_stand ((yv b M1)) i ((nI i) * (sc (yv b M1) 1)) 0 200).2 = _ from by first | rfl | simp only [hA])
      have w8 : yf b M M5 := yf_tr hf w8
      refine wgo (g' := (M5, 24, [some (.inr (3, b)), some (.inl p1), some (.inl p2), some (.inl p3), some (.inl p4), some (.inl ((nI i) + 1))], [])) [oc (none, M5), oz 0, oz 0] rfl ⟨⟨s6, Nat.le_of_ble_eq_true rfl, Nat.le_of_ble_eq_true rfl, ⟨_, rfl⟩⟩, trivial, trivial, trivial⟩ ?_
      rw [nI_1 i]
      have x9 : f_lay (r + 1) A p1 p2 p3 p4 i = f_lay r ((f_Cr_stand (A) i ((nI i) * (sc (A) 1)) 0 200).2) p1 p2 p3 p4 (i + 1) := by
        rw [f_lay]
        rw [if_neg k4]
      rw [x9]
      exact ih _ M5 (i + 1) a7 w8 (by unfold f_Cr_stand; exact hn) (nI_sl hn (by omega) hi k4) (by omega)
def f_Yd_lay (A : ya) (p1 : Int32) (p2 : Int32) (p3 : Int32) (p4 : Int32) : Int32 × ya := (f_lay 4 (usc (usc (usc (usc (A) 0 p1) 1 p2) 2 p3) 3 p4) p1 p2 p3 p4 0)
set_option maxRecDepth 20000 in
set_option maxHeartbeats 1000000 in
theorem ys_Yd_lay {d b : Nat} {M : mm_M} {p1 : Int32} {p2 : Int32} {p3 : Int32} {p4 : Int32} (hb : b = 8 ∨ b = 16) {n : Nat} (hn : p1 = nI n) (hn3 : n ≤ 3) : YS (d + 2) 16 b M [.inr (3, b), .inl p1, .inl p2, .inl p3, .inl p4] (none) (f_Yd_lay (yv b M) p1 p2 p3 p4).2 := by
  refine YS_of (Nat.le_of_ble_eq_true rfl) ?_
  show mm_Wp pg_Yd_lay rt_Yd_lay (ct_Sem (d + 1)) (M, 0, [some (.inr (3, b)), some (.inl p1), some (.inl p2), some (.inl p3), some (.inl p4), none], []) _
  refine wgo (g' := (mm_up M b 0 p1, 5, [some (.inr (3, b)), some (.inl p1), some (.inl p2), some (.inl p3), some (.inl p4), none], [])) [oz 0, oz 0, oz 0] rfl ⟨trivial, trivial, trivial, trivial⟩ ?_
  generalize e2 : mm_up M b 0 p1 = M1
  have a3 : yv b M1 = usc ((yv b M)) 0 p1 := by
    rw [← e2]
    refine yv_sc.trans ?_
    show usc ((yv b M)) 0 p1 = _
    rfl
  have w4 : yf b M M1 := by rw [← e2]; exact yf_up yf_rf (by unfold yo; omega)
  refine wgo (g' := (mm_up M1 b 1 p2, 10, [some (.inr (3, b)), some (.inl p1), some (.inl p2), some (.inl p3), some (.inl p4), none], [])) [oz 0, oz 0, oz 0] rfl ⟨trivial, trivial, trivial, trivial⟩ ?_
  generalize e6 : mm_up M1 b 1 p2 = M5
  have a7 : yv b M5 = usc (usc ((yv b M)) 0 p1) 1 p2 := by
    rw [← e6]
    refine yv_sc.trans ?_
    show usc ((yv b M1)) 1 p2 = _
    first | rfl | simp only [a3]
  have w8 : yf b M M5 := by rw [← e6]; exact yf_up w4 (by unfold yo; omega)
  refine wgo (g' := (mm_up M5 b 2 p3, 15, [some (.inr (3, b)), some (.inl p1), some (.inl p2), some (.inl p3), some (.inl p4), none], [])) [oz 0, oz 0, oz 0] rfl ⟨trivial, trivial, trivial, trivial⟩ ?_
  generalize e10 : mm_up M5 b 2 p3 = M9
  have a11 : yv b M9 = usc (usc (usc ((yv b M)) 0 p1) 1 p2) 2 p3 := by
    rw [← e10]
    refine yv_sc.trans ?_
    show usc ((yv b M5)) 2 p3 = _
    first | rfl | simp only [a3, a7]
  have w12 : yf b M M9 := by rw [← e10]; exact yf_up w8 (by unfold yo; omega)
  refine wgo (g' := (mm_up M9 b 3 p4, 21, [some (.inr (3, b)), some (.inl p1), some (.inl p2), some (.inl p3), some (.inl p4), none], [])) [oz 0, oz 0, oz 0] rfl ⟨trivial, trivial, trivial, trivial⟩ ?_
  generalize e14 : mm_up M9 b 3 p4 = M13
  have a15 : yv b M13 = usc (usc (usc (usc ((yv b M)) 0 p1) 1 p2) 2 p3) 3 p4 := by
    rw [← e14]
    refine yv_sc.trans ?_
    show usc ((yv b M9)) 3 p4 = _
    first | rfl | simp only [a3, a7, a11]
  have w16 : yf b M M13 := by rw [← e14]; exact yf_up w12 (by unfold yo; omega)
  refine wgo (g' := (M13, 24, [some (.inr (3, b)), some (.inl p1), some (.inl p2), some (.inl p3), some (.inl p4), some (.inl 0)], [])) [oz 0, oz 0] rfl ⟨trivial, Nat.le_of_ble_eq_true rfl, trivial⟩ ?_
  have x17 : f_Yd_lay (yv b M) p1 p2 p3 p4 = f_lay 4 (usc (usc (usc (usc ((yv b M)) 0 p1) 1 p2) 2 p3) 3 p4) p1 p2 p3 p4 0 := by
    unfold f_Yd_lay
    rfl
  rw [x17]
  exact lp_lay (d := d) (b := b) (M := M) hb hn3 4 _ M13 0 a15 w16 hn (Nat.zero_le _) (by omega)
end
section
/-! THE REFERENCE SEEN: rows 0 its own numbers, 1 low, 2 high, 3 all, 4 kept, 5 way, 6 best -/
def rv (M : mm_M) : mm_M := fun r k => M (24 + r) k
theorem rv_up (r : Nat) {M : mm_M} {k : Nat} {v : Int32} : rv (mm_up M (24 + r) k v) = mm_up (rv M) r k v := by
  funext j q
  show mm_up M (24 + r) k v (24 + j) q = _
  exact mm_up_w (o := fun j => 24 + j) (fun c j h => by omega) (fun _ _ => rfl) rfl
def rf (M M' : mm_M) : Prop := ∀ i, ¬ (24 ≤ i ∧ i ≤ 30) → M' i = M i
theorem rf_rf {M : mm_M} : rf M M := fun _ _ => rfl
theorem rf_tr {M M1 M2 : mm_M} (h : rf M M1) (h2 : rf M1 M2) : rf M M2 := fun i hi => (h2 i hi).trans (h i hi)
theorem rf_up {i k : Nat} {v : Int32} {M M1 : mm_M} (h : rf M M1) (hi : 24 ≤ i ∧ i ≤ 30) : rf M (mm_up M1 i k v) := fun j hj => by
  have hne : j ≠ i := fun e => hj (by rw [e]; exact hi)
  rw [mm_up_z hne]
  exact h j hj
def RS (d z : Nat) (M : mm_M) (as : List mm_V) (r : Option Int32) (A' : mm_M) : Prop := ∃ M', ct_Sem d z M as (r, M') ∧ rv M' = A' ∧ rf M M'
def rQ (M : mm_M) (r : Option Int32) (A' : mm_M) : mm_R → Prop := fun res => res.1 = r ∧ rv res.2 = A' ∧ rf M res.2
theorem RS_of {d z : Nat} {M : mm_M} {as : List mm_V} {r : Option Int32} {A' : mm_M} (hn : as.length ≤ ct_T.2.2.1 z) (h : mm_Wp (ct_pg z) (ct_rt z) (ct_Sem d) (M, 0, as.map some ++ List.replicate (ct_T.2.2.1 z - as.length) none, []) (rQ M r A')) : RS (d + 1) z M as r A' := by
  obtain ⟨⟨r1, M1⟩, h1, h2, h3, h4⟩ := h
  simp only at h2 h3 h4
  subst h2
  exact ⟨M1, ⟨hn, h1⟩, h3, h4⟩
theorem ix_c {c w : Nat} : (10 : Int32) + 10 * nI c + nI w = nI (10 + 10 * c + w) := by
  rw [show (10 : Int32) = nI 10 from rfl, pk_mul, nI_add, nI_add]
theorem ix_j {j w : Nat} : (50 : Int32) + 7 * nI j + nI w = nI (50 + 7 * j + w) := by
  rw [show (50 : Int32) = nI 50 from rfl, show (7 : Int32) = nI 7 from rfl, pk_mul, nI_add, nI_add]
def f_Mo_in  (v : Int32) (a : Int32) (e : Int32) : Int32 := (if v < a then 0 else (if e < v then 0 else 1))
set_option maxRecDepth 20000 in
set_option maxHeartbeats 1000000 in
theorem sm_Mo_in {d : Nat} {M : mm_M} {v : Int32} {a : Int32} {e : Int32}  : ct_Sem (d + 1) 35 M [.inl v, .inl a, .inl e] (some (f_Mo_in  v a e), M) := by
  refine SM_of (Nat.le_of_ble_eq_true rfl) ?_
  show mm_Wp pg_Mo_in rt_Mo_in (ct_Sem (d + 0)) (M, 0, [some (.inl v), some (.inl a), some (.inl e)], []) _
  refine wgo (g' := (M, 2, [some (.inl v), some (.inl a), some (.inl e)], [.inl a, .inl v])) [oz 0, oz 0] rfl ⟨trivial, trivial, trivial⟩ ?_
  by_cases h1 : v < a
  · have k2 : v < a := by
      have q : v < a := h1
      exact q
    refine wgo (g' := (M, 15, [some (.inl v), some (.inl a), some (.inl e)], [.inl 0])) [oz 1, oz 0] rfl ⟨h1, trivial, trivial⟩ ?_
    have x3 : f_Mo_in  v a e = 0 := by
      unfold f_Mo_in
      rw [if_pos k2]
    exact wend ⟨_, rfl, rfl, Or.inl rfl⟩ (congrArg (fun q => (some q, M)) x3.symm)
  · have k4 : ¬ (v < a) := by
      have q : ¬ (v < a) := h1
      exact q
    refine wgo (g' := (M, 7, [some (.inl v), some (.inl a), some (.inl e)], [.inl e, .inl v])) [oz 0, oz 0, oz 0] rfl ⟨h1, trivial, trivial, trivial⟩ ?_
    by_cases h5 : e < v
    · have k6 : e < v := by
        have q : e < v := h5
        exact q
      refine wgo (g' := (M, 15, [some (.inl v), some (.inl a), some (.inl e)], [.inl 0])) [oz 1, oz 0] rfl ⟨h5, trivial, trivial⟩ ?_
      have x7 : f_Mo_in  v a e = 0 := by
        unfold f_Mo_in
        rw [if_neg k4, if_pos k6]
      exact wend ⟨_, rfl, rfl, Or.inl rfl⟩ (congrArg (fun q => (some q, M)) x7.symm)
    · have k8 : ¬ (e < v) := by
        have q : ¬ (e < v) := h5
        exact q
      refine wgo (g' := (M, 15, [some (.inl v), some (.inl a), some (.inl e)], [.inl 1])) [oz 0, oz 0, oz 0] rfl ⟨h5, trivial, trivial, trivial⟩ ?_
      have x9 : f_Mo_in  v a e = 1 := by
        unfold f_Mo_in
        rw [if_neg k4, if_neg k8]
      exact wend ⟨_, rfl, rfl, Or.inr rfl⟩ (congrArg (fun q => (some q, M)) x9.symm)
theorem f_Mo_in01 (v a e : Int32) : f_Mo_in v a e = 0 ∨ f_Mo_in v a e = 1 := by
  unfold f_Mo_in
  split
  · exact Or.inl rfl
  · split
    · exact Or.inl rfl
    · exact Or.inr rfl
def f_Mo_thrown (A : mm_M)  : Int32 := (A) 0 0
set_option maxRecDepth 20000 in
set_option maxHeartbeats 1000000 in
theorem sm_Mo_thrown {d : Nat} {M : mm_M}   : ct_Sem (d + 1) 33 M [.inr (5, 24)] (some (f_Mo_thrown (rv M) ), M) := by
  refine SM_of (Nat.le_of_ble_eq_true rfl) ?_
  show mm_Wp pg_Mo_thrown rt_Mo_thrown (ct_Sem (d + 0)) (M, 0, [some (.inr (5, 24))], []) _
  refine wgo (g' := (M, 4, [some (.inr (5, 24))], [.inl (M 24 0)])) [oz 0, oz 0] rfl ⟨trivial, trivial, trivial⟩ ?_
  have x1 : f_Mo_thrown (rv M) = ((rv M)) 0 0 := by
    unfold f_Mo_thrown
    rfl
  exact wend ⟨_, rfl, rfl⟩ (congrArg (fun q => (some q, M)) x1.symm)
def f_Mo_ofCrane (A : mm_M) (c : Nat) (w : Nat) : Int32 := (A) 3 (10 + 10 * c + w)
set_option maxRecDepth 20000 in
set_option maxHeartbeats 1000000 in
theorem sm_Mo_ofCrane {d : Nat} {M : mm_M} {c : Nat} {w : Nat} (hx : 10 + 10 * c + w < 110) : ct_Sem (d + 1) 38 M [.inr (5, 24), .inl (nI c), .inl (nI w)] (some (f_Mo_ofCrane (rv M) c w), M) := by
  refine SM_of (Nat.le_of_ble_eq_true rfl) ?_
  show mm_Wp pg_Mo_ofCrane rt_Mo_ofCrane (ct_Sem (d + 0)) (M, 0, [some (.inr (5, 24)), some (.inl (nI c)), some (.inl (nI w))], []) _
  refine wgo (g' := (M, 14, [some (.inr (5, 24)), some (.inl (nI c)), some (.inl (nI w))], [.inl (M 27 (10 + 10 * c + w))])) [oz 0, oz 0, oz 0, oz 0, oz 0, oz 0, oz 0, oz 0, oz 0, oz (10 + 10 * c + w)] rfl ⟨trivial, trivial, trivial, trivial, trivial, trivial, trivial, trivial, trivial, ⟨ix_c, hx⟩, trivial⟩ ?_
  have x1 : f_Mo_ofCrane (rv M) c w = ((rv M)) 3 (10 + 10 * c + w) := by
    unfold f_Mo_ofCrane
    rfl
  exact wend ⟨_, rfl, rfl⟩ (congrArg (fun q => (some q, M)) x1.symm)
def f_Mo_ofJob (A : mm_M) (j : Nat) (w : Nat) : Int32 := (A) 3 (50 + 7 * j + w)
set_option maxRecDepth 20000 in
set_option maxHeartbeats 1000000 in
theorem sm_Mo_ofJob {d : Nat} {M : mm_M} {j : Nat} {w : Nat} (hx : 50 + 7 * j + w < 110) : ct_Sem (d + 1) 40 M [.inr (5, 24), .inl (nI j), .inl (nI w)] (some (f_Mo_ofJob (rv M) j w), M) := by
  refine SM_of (Nat.le_of_ble_eq_true rfl) ?_
  show mm_Wp pg_Mo_ofJob rt_Mo_ofJob (ct_Sem (d + 0)) (M, 0, [some (.inr (5, 24)), some (.inl (nI j)), some (.inl (nI w))], []) _
  refine wgo (g' := (M, 14, [some (.inr (5, 24)), some (.inl (nI j)), some (.inl (nI w))], [.inl (M 27 (50 + 7 * j + w))])) [oz 0, oz 0, oz 0, oz 0, oz 0, oz 0, oz 0, oz 0, oz 0, oz (50 + 7 * j + w)] rfl ⟨trivial, trivial, trivial, trivial, trivial, trivial, trivial, trivial, trivial, ⟨ix_j, hx⟩, trivial⟩ ?_
  have x1 : f_Mo_ofJob (rv M) j w = ((rv M)) 3 (50 + 7 * j + w) := by
    unfold f_Mo_ofJob
    rfl
  exact wend ⟨_, rfl, rfl⟩ (congrArg (fun q => (some q, M)) x1.symm)
def f_Mo_setCrane (A : mm_M) (c : Nat) (w : Nat) (x : Int32) : Int32 × mm_M := (0, mm_up (A) 3 (10 + 10 * c + w) x)
set_option maxRecDepth 20000 in
set_option maxHeartbeats 1000000 in
theorem rs_Mo_setCrane {d : Nat} {M : mm_M} {c : Nat} {w : Nat} {x : Int32}  (hx : 10 + 10 * c + w < 110) : RS (d + 1) 39  M [.inr (5, 24), .inl (nI c), .inl (nI w), .inl x] (none) (f_Mo_setCrane (rv M) c w x).2 := by
  refine RS_of (Nat.le_of_ble_eq_true rfl) ?_
  show mm_Wp pg_Mo_setCrane rt_Mo_setCrane (ct_Sem (d + 0)) (M, 0, [some (.inr (5, 24)), some (.inl (nI c)), some (.inl (nI w)), some (.inl x)], []) _
  refine wgo (g' := (mm_up M 27 (10 + 10 * c + w) x, 15, [some (.inr (5, 24)), some (.inl (nI c)), some (.inl (nI w)), some (.inl x)], [])) [oz 0, oz 0, oz 0, oz 0, oz 0, oz 0, oz 0, oz 0, oz 0, oz 0, oz (10 + 10 * c + w)] rfl ⟨trivial, trivial, trivial, trivial, trivial, trivial, trivial, trivial, trivial, trivial, ⟨ix_c, hx⟩, trivial⟩ ?_
  generalize e2 : mm_up M 27 (10 + 10 * c + w) x = M1
  have a3 : rv M1 = mm_up ((rv M)) 3 (10 + 10 * c + w) x := by
    rw [← e2]
    refine (rv_up 3).trans ?_
    show mm_up ((rv M)) 3 (10 + 10 * c + w) x = _
    rfl
  have w4 : rf M M1 := by rw [← e2]; exact rf_up rf_rf (by decide)
  have x5 : f_Mo_setCrane (rv M) c w x = (0, mm_up ((rv M)) 3 (10 + 10 * c + w) x) := by
    unfold f_Mo_setCrane
    rfl
  exact wend ⟨rfl, rfl⟩ ⟨rfl, a3.trans (congrArg Prod.snd x5).symm, w4⟩
def f_Mo_setJob (A : mm_M) (j : Nat) (w : Nat) (x : Int32) : Int32 × mm_M := (0, mm_up (A) 3 (50 + 7 * j + w) x)
set_option maxRecDepth 20000 in
set_option maxHeartbeats 1000000 in
theorem rs_Mo_setJob {d : Nat} {M : mm_M} {j : Nat} {w : Nat} {x : Int32}  (hx : 50 + 7 * j + w < 110) : RS (d + 1) 41  M [.inr (5, 24), .inl (nI j), .inl (nI w), .inl x] (none) (f_Mo_setJob (rv M) j w x).2 := by
  refine RS_of (Nat.le_of_ble_eq_true rfl) ?_
  show mm_Wp pg_Mo_setJob rt_Mo_setJob (ct_Sem (d + 0)) (M, 0, [some (.inr (5, 24)), some (.inl (nI j)), some (.inl (nI w)), some (.inl x)], []) _
  refine wgo (g' := (mm_up M 27 (50 + 7 * j + w) x, 15, [some (.inr (5, 24)), some (.inl (nI j)), some (.inl (nI w)), some (.inl x)], [])) [oz 0, oz 0, oz 0, oz 0, oz 0, oz 0, oz 0, oz 0, oz 0, oz 0, oz (50 + 7 * j + w)] rfl ⟨trivial, trivial, trivial, trivial, trivial, trivial, trivial, trivial, trivial, trivial, ⟨ix_j, hx⟩, trivial⟩ ?_
  generalize e2 : mm_up M 27 (50 + 7 * j + w) x = M1
  have a3 : rv M1 = mm_up ((rv M)) 3 (50 + 7 * j + w) x := by
    rw [← e2]
    refine (rv_up 3).trans ?_
    show mm_up ((rv M)) 3 (50 + 7 * j + w) x = _
    rfl
  have w4 : rf M M1 := by rw [← e2]; exact rf_up rf_rf (by decide)
  have x5 : f_Mo_setJob (rv M) j w x = (0, mm_up ((rv M)) 3 (50 + 7 * j + w) x) := by
    unfold f_Mo_setJob
    rfl
  exact wend ⟨rfl, rfl⟩ ⟨rfl, a3.trans (congrArg Prod.snd x5).symm, w4⟩
def f_Mo_isCrane (A : mm_M) (c : Int32) : Int32 := f_Mo_in c 0 (((A) 0 1) - 1)
set_option maxRecDepth 20000 in
set_option maxHeartbeats 1000000 in
theorem sm_Mo_isCrane {d : Nat} {M : mm_M} {c : Int32}  : ct_Sem (d + 2) 36 M [.inr (5, 24), .inl c] (some (f_Mo_isCrane (rv M) c), M) := by
  refine SM_of (Nat.le_of_ble_eq_true rfl) ?_
  show mm_Wp pg_Mo_isCrane rt_Mo_isCrane (ct_Sem (d + 1)) (M, 0, [some (.inr (5, 24)), some (.inl c)], []) _
  refine wgo (g' := (M, 8, [some (.inr (5, 24)), some (.inl c)], [.inl ((M 24 1) - 1), .inl 0, .inl c])) [oz 0, oz 0, oz 0, oz 0, oz 0, oz 0] rfl ⟨trivial, trivial, trivial, trivial, trivial, trivial, trivial⟩ ?_
  have s1 := sm_Mo_in (d := d)  (M := M) (v := c) (a := 0) (e := (M 24 1) - 1) 
  refine wgo (g' := (M, 11, [some (.inr (5, 24)), some (.inl c)], [.inl (f_Mo_in c 0 ((M 24 1) - 1))])) [oc (some (f_Mo_in c 0 ((M 24 1) - 1)), M)] rfl ⟨⟨s1, Nat.le_of_ble_eq_true rfl, Nat.le_of_ble_eq_true rfl, trivial⟩, trivial⟩ ?_
  have x2 : f_Mo_isCrane (rv M) c = f_Mo_in c 0 ((((rv M)) 0 1) - 1) := by
    unfold f_Mo_isCrane
    rfl
  exact wend ⟨_, rfl, rfl, f_Mo_in01 _ _ _⟩ (congrArg (fun q => (some q, M)) x2.symm)
def f_Mo_isJob (A : mm_M) (j : Int32) : Int32 := f_Mo_in j 0 (((A) 0 5) - 1)
set_option maxRecDepth 20000 in
set_option maxHeartbeats 1000000 in
theorem sm_Mo_isJob {d : Nat} {M : mm_M} {j : Int32}  : ct_Sem (d + 2) 37 M [.inr (5, 24), .inl j] (some (f_Mo_isJob (rv M) j), M) := by
  refine SM_of (Nat.le_of_ble_eq_true rfl) ?_
  show mm_Wp pg_Mo_isJob rt_Mo_isJob (ct_Sem (d + 1)) (M, 0, [some (.inr (5, 24)), some (.inl j)], []) _
  refine wgo (g' := (M, 8, [some (.inr (5, 24)), some (.inl j)], [.inl ((M 24 5) - 1), .inl 0, .inl j])) [oz 0, oz 0, oz 0, oz 0, oz 0, oz 0] rfl ⟨trivial, trivial, trivial, trivial, trivial, trivial, trivial⟩ ?_
  have s1 := sm_Mo_in (d := d)  (M := M) (v := j) (a := 0) (e := (M 24 5) - 1) 
  refine wgo (g' := (M, 11, [some (.inr (5, 24)), some (.inl j)], [.inl (f_Mo_in j 0 ((M 24 5) - 1))])) [oc (some (f_Mo_in j 0 ((M 24 5) - 1)), M)] rfl ⟨⟨s1, Nat.le_of_ble_eq_true rfl, Nat.le_of_ble_eq_true rfl, trivial⟩, trivial⟩ ?_
  have x2 : f_Mo_isJob (rv M) j = f_Mo_in j 0 ((((rv M)) 0 5) - 1) := by
    unfold f_Mo_isJob
    rfl
  exact wend ⟨_, rfl, rfl, f_Mo_in01 _ _ _⟩ (congrArg (fun q => (some q, M)) x2.symm)
def f_thr (A : mm_M) (p1 : Int32) (p2 : Int32) (p3 : Int32) (p4 : Int32) (t : Int32) : Int32 × mm_M := (if ((mm_up (A) 0 0 t) 0 0) ≤ 0 then (0, mm_up (A) 0 0 t) else (1, mm_up (A) 0 0 t))
set_option maxRecDepth 20000 in
set_option maxHeartbeats 1000000 in
theorem sg_thr {d : Nat} {M : mm_M} {A : mm_M} {Mz : mm_M} {p1 : Int32} {p2 : Int32} {p3 : Int32} {p4 : Int32} {t : Int32}  (hA : rv Mz = A) (hf : rf M Mz)  : mm_Wp pg_Mo_throwing rt_Mo_throwing (ct_Sem (d + 0)) (Mz, 35, [some (.inr (5, 24)), some (.inl p1), some (.inl p2), some (.inl p3), some (.inl p4)], [.inl t, .inr (5, 24)]) (rQ M (some (f_thr A p1 p2 p3 p4 t).1) (f_thr A p1 p2 p3 p4 t).2) := by
  refine wgo (g' := (mm_up Mz 24 0 t, 38, [some (.inr (5, 24)), some (.inl p1), some (.inl p2), some (.inl p3), some (.inl p4)], [])) [oz 0] rfl ⟨trivial, trivial⟩ ?_
  generalize e2 : mm_up Mz 24 0 t = M1
  have a3 : rv M1 = mm_up (A) 0 0 t := by
    rw [← e2]
    refine (rv_up 0).trans ?_
    show mm_up ((rv Mz)) 0 0 t = _
    first | rfl | simp only [hA]
  have w4 : rf M M1 := by rw [← e2]; exact rf_up hf (by decide)
  refine wgo (g' := (M1, 42, [some (.inr (5, 24)), some (.inl p1), some (.inl p2), some (.inl p3), some (.inl p4)], [.inl (M1 24 0)])) [oz 0, oz 0] rfl ⟨trivial, trivial, trivial⟩ ?_
  by_cases h5 : (M1 24 0) ≤ 0
  · have k6 : ((mm_up (A) 0 0 t) 0 0) ≤ 0 := by
      have q : ((rv M1) 0 0) ≤ 0 := h5
      first | exact q | (simp only [hA, a3] at q; exact q)
    refine wgo (g' := (M1, 50, [some (.inr (5, 24)), some (.inl p1), some (.inl p2), some (.inl p3), some (.inl p4)], [.inl 0])) [oz 1, oz 0] rfl ⟨h5, trivial, trivial⟩ ?_
    have x7 : f_thr A p1 p2 p3 p4 t = (0, mm_up (A) 0 0 t) := by
      unfold f_thr
      rw [if_pos k6]
    exact wend ⟨_, rfl, rfl, Or.inl rfl⟩ ⟨congrArg some ((show (0 : Int32) = 0 from by first | rfl | simp only [hA, a3]).trans (congrArg Prod.fst x7).symm), a3.trans (congrArg Prod.snd x7).symm, w4⟩
  · have k8 : ¬ (((mm_up (A) 0 0 t) 0 0) ≤ 0) := by
      have q : ¬ (((rv M1) 0 0) ≤ 0) := h5
      first | exact q | (simp only [hA, a3] at q; exact q)
    refine wgo (g' := (M1, 50, [some (.inr (5, 24)), some (.inl p1), some (.inl p2), some (.inl p3), some (.inl p4)], [.inl 1])) [oz 0, oz 0, oz 0] rfl ⟨h5, trivial, trivial, trivial⟩ ?_
    have x9 : f_thr A p1 p2 p3 p4 t = (1, mm_up (A) 0 0 t) := by
      unfold f_thr
      rw [if_neg k8]
    exact wend ⟨_, rfl, rfl, Or.inr rfl⟩ ⟨congrArg some ((show (1 : Int32) = 1 from by first | rfl | simp only [hA, a3]).trans (congrArg Prod.fst x9).symm), a3.trans (congrArg Prod.snd x9).symm, w4⟩
def f_Mo_throwing (A : mm_M) (p1 : Int32) (p2 : Int32) (p3 : Int32) (p4 : Int32) : Int32 × mm_M := (if p1 = 0 then (if p2 = 0 then (if p3 = 0 then (if p4 = 0 then (f_thr (A) p1 p2 p3 p4 0) else (f_thr (A) p1 p2 p3 p4 4)) else (f_thr (A) p1 p2 p3 p4 3)) else (f_thr (A) p1 p2 p3 p4 2)) else (f_thr (A) p1 p2 p3 p4 1))
set_option maxRecDepth 20000 in
set_option maxHeartbeats 1000000 in
theorem rs_Mo_throwing {d : Nat} {M : mm_M} {p1 : Int32} {p2 : Int32} {p3 : Int32} {p4 : Int32}   : RS (d + 1) 34  M [.inr (5, 24), .inl p1, .inl p2, .inl p3, .inl p4] (some (f_Mo_throwing (rv M) p1 p2 p3 p4).1) (f_Mo_throwing (rv M) p1 p2 p3 p4).2 := by
  refine RS_of (Nat.le_of_ble_eq_true rfl) ?_
  show mm_Wp pg_Mo_throwing rt_Mo_throwing (ct_Sem (d + 0)) (M, 0, [some (.inr (5, 24)), some (.inl p1), some (.inl p2), some (.inl p3), some (.inl p4)], []) _
  refine wgo (g' := (M, 2, [some (.inr (5, 24)), some (.inl p1), some (.inl p2), some (.inl p3), some (.inl p4)], [.inl p1, .inr (5, 24)])) [oz 0, oz 0] rfl ⟨trivial, trivial, trivial⟩ ?_
  by_cases h1 : p1 = 0
  · have k2 : p1 = 0 := by
      have q : p1 = 0 := h1
      exact q
    refine wgo (g' := (M, 10, [some (.inr (5, 24)), some (.inl p1), some (.inl p2), some (.inl p3), some (.inl p4)], [.inl p2, .inr (5, 24)])) [oz 1, oz 0] rfl ⟨h1, trivial, trivial⟩ ?_
    by_cases h3 : p2 = 0
    · have k4 : p2 = 0 := by
        have q : p2 = 0 := h3
        exact q
      refine wgo (g' := (M, 18, [some (.inr (5, 24)), some (.inl p1), some (.inl p2), some (.inl p3), some (.inl p4)], [.inl p3, .inr (5, 24)])) [oz 1, oz 0] rfl ⟨h3, trivial, trivial⟩ ?_
      by_cases h5 : p3 = 0
      · have k6 : p3 = 0 := by
          have q : p3 = 0 := h5
          exact q
        refine wgo (g' := (M, 27, [some (.inr (5, 24)), some (.inl p1), some (.inl p2), some (.inl p3), some (.inl p4)], [.inl p4, .inr (5, 24)])) [oz 1, oz 0] rfl ⟨h5, trivial, trivial⟩ ?_
        by_cases h7 : p4 = 0
        · have k8 : p4 = 0 := by
            have q : p4 = 0 := h7
            exact q
          refine wgo (g' := (M, 35, [some (.inr (5, 24)), some (.inl p1), some (.inl p2), some (.inl p3), some (.inl p4)], [.inl 0, .inr (5, 24)])) [oz 1, oz 0] rfl ⟨h7, trivial, trivial⟩ ?_
          have x9 : f_Mo_throwing (rv M) p1 p2 p3 p4 = f_thr ((rv M)) p1 p2 p3 p4 0 := by
            unfold f_Mo_throwing
            rw [if_pos k2, if_pos k4, if_pos k6, if_pos k8]
          rw [x9]
          exact sg_thr (d := d)  (M := M) (Mz := M) (p1 := p1) (p2 := p2) (p3 := p3) (p4 := p4) (t := 0)  rfl rf_rf 
        · have k10 : ¬ (p4 = 0) := by
            have q : ¬ (p4 = 0) := h7
            exact q
          refine wgo (g' := (M, 35, [some (.inr (5, 24)), some (.inl p1), some (.inl p2), some (.inl p3), some (.inl p4)], [.inl 4, .inr (5, 24)])) [oz 0, oz 0, oz 0] rfl ⟨h7, trivial, trivial, trivial⟩ ?_
          have x11 : f_Mo_throwing (rv M) p1 p2 p3 p4 = f_thr ((rv M)) p1 p2 p3 p4 4 := by
            unfold f_Mo_throwing
            rw [if_pos k2, if_pos k4, if_pos k6, if_neg k10]
          rw [x11]
          exact sg_thr (d := d)  (M := M) (Mz := M) (p1 := p1) (p2 := p2) (p3 := p3) (p4 := p4) (t := 4)  rfl rf_rf 
      · have k12 : ¬ (p3 = 0) := by
          have q : ¬ (p3 = 0) := h5
          exact q
        refine wgo (g' := (M, 35, [some (.inr (5, 24)), some (.inl p1), some (.inl p2), some (.inl p3), some (.inl p4)], [.inl 3, .inr (5, 24)])) [oz 0, oz 0, oz 0] rfl ⟨h5, trivial, trivial, trivial⟩ ?_
        have x13 : f_Mo_throwing (rv M) p1 p2 p3 p4 = f_thr ((rv M)) p1 p2 p3 p4 3 := by
          unfold f_Mo_throwing
          rw [if_pos k2, if_pos k4, if_neg k12]
        rw [x13]
        exact sg_thr (d := d)  (M := M) (Mz := M) (p1 := p1) (p2 := p2) (p3 := p3) (p4 := p4) (t := 3)  rfl rf_rf 
    · have k14 : ¬ (p2 = 0) := by
        have q : ¬ (p2 = 0) := h3
        exact q
      refine wgo (g' := (M, 35, [some (.inr (5, 24)), some (.inl p1), some (.inl p2), some (.inl p3), some (.inl p4)], [.inl 2, .inr (5, 24)])) [oz 0, oz 0, oz 0] rfl ⟨h3, trivial, trivial, trivial⟩ ?_
      have x15 : f_Mo_throwing (rv M) p1 p2 p3 p4 = f_thr ((rv M)) p1 p2 p3 p4 2 := by
        unfold f_Mo_throwing
        rw [if_pos k2, if_neg k14]
      rw [x15]
      exact sg_thr (d := d)  (M := M) (Mz := M) (p1 := p1) (p2 := p2) (p3 := p3) (p4 := p4) (t := 2)  rfl rf_rf 
  · have k16 : ¬ (p1 = 0) := by
      have q : ¬ (p1 = 0) := h1
      exact q
    refine wgo (g' := (M, 35, [some (.inr (5, 24)), some (.inl p1), some (.inl p2), some (.inl p3), some (.inl p4)], [.inl 1, .inr (5, 24)])) [oz 0, oz 0, oz 0] rfl ⟨h1, trivial, trivial, trivial⟩ ?_
    have x17 : f_Mo_throwing (rv M) p1 p2 p3 p4 = f_thr ((rv M)) p1 p2 p3 p4 1 := by
      unfold f_Mo_throwing
      rw [if_neg k16]
    rw [x17]
    exact sg_thr (d := d)  (M := M) (Mz := M) (p1 := p1) (p2 := p2) (p3 := p3) (p4 := p4) (t := 1)  rfl rf_rf 
end
section
def f_Mo_begins (A : mm_M) (c : Nat) (x : Int32) : Int32 × mm_M := (0, (f_Mo_setCrane ((f_Mo_setCrane (A) c 1 x).2) c 3 (((f_Mo_setCrane (A) c 1 x).2) 0 4)).2)
set_option maxRecDepth 20000 in
set_option maxHeartbeats 1000000 in
theorem rs_Mo_begins {d : Nat} {M : mm_M} {c : Nat} {x : Int32}  (hc : c < 3) : RS (d + 2) 53  M [.inr (5, 24), .inl (nI c), .inl x] (none) (f_Mo_begins (rv M) c x).2 := by
  refine RS_of (Nat.le_of_ble_eq_true rfl) ?_
  show mm_Wp pg_Mo_begins rt_Mo_begins (ct_Sem (d + 1)) (M, 0, [some (.inr (5, 24)), some (.inl (nI c)), some (.inl x)], []) _
  refine wgo (g' := (M, 4, [some (.inr (5, 24)), some (.inl (nI c)), some (.inl x)], [.inl x, .inl 1, .inl (nI c), .inr (5, 24)])) [oz 0, oz 0, oz 0, oz 0] rfl ⟨trivial, trivial, trivial, trivial, trivial⟩ ?_
  obtain ⟨M1, s2, a3, w4⟩ := rs_Mo_setCrane (d := d)  (M := M) (c := c) (w := 1) (x := x)  (by omega)
  have a3 : rv M1 = (f_Mo_setCrane ((rv M)) c 1 x).2 := a3.trans (show (f_Mo_setCrane ((rv M)) c 1 x).2 = _ from by first | rfl | simp only [rv])
  have w4 : rf M M1 := rf_tr rf_rf w4
  refine wgo (g' := (M1, 14, [some (.inr (5, 24)), some (.inl (nI c)), some (.inl x)], [.inl (M1 24 4), .inl 3, .inl (nI c), .inr (5, 24)])) [oc (none, M1), oz 0, oz 0, oz 0, oz 0, oz 0] rfl ⟨⟨s2, Nat.le_of_ble_eq_true rfl, Nat.le_of_ble_eq_true rfl, ⟨_, rfl⟩⟩, trivial, trivial, trivial, trivial, trivial, trivial⟩ ?_
  obtain ⟨M5, s6, a7, w8⟩ := rs_Mo_setCrane (d := d)  (M := M1) (c := c) (w := 3) (x := M1 24 4)  (by omega)
  have a7 : rv M5 = (f_Mo_setCrane ((f_Mo_setCrane ((rv M)) c 1 x).2) c 3 (((f_Mo_setCrane ((rv M)) c 1 x).2) 0 4)).2 := a7.trans (show (f_Mo_setCrane ((rv M1)) c 3 ((rv M1) 0 4)).2 = _ from by first | rfl | simp only [a3])
  have w8 : rf M M5 := rf_tr w4 w8
  refine wgo (g' := (M5, 17, [some (.inr (5, 24)), some (.inl (nI c)), some (.inl x)], [])) [oc (none, M5)] rfl ⟨⟨s6, Nat.le_of_ble_eq_true rfl, Nat.le_of_ble_eq_true rfl, ⟨_, rfl⟩⟩, trivial⟩ ?_
  have x9 : f_Mo_begins (rv M) c x = (0, (f_Mo_setCrane ((f_Mo_setCrane ((rv M)) c 1 x).2) c 3 (((f_Mo_setCrane ((rv M)) c 1 x).2) 0 4)).2) := by
    unfold f_Mo_begins
    rfl
  exact wend ⟨rfl, rfl⟩ ⟨rfl, a7.trans (congrArg Prod.snd x9).symm, w8⟩
def f_Mo_hasGoal (A : mm_M) (c : Nat) : Int32 := (if (f_Mo_ofCrane (A) c 1) = 1 then 1 else (if (f_Mo_ofCrane (A) c 1) = 3 then 1 else 0))
set_option maxRecDepth 20000 in
set_option maxHeartbeats 1000000 in
theorem sm_Mo_hasGoal {d : Nat} {M : mm_M} {c : Nat} (hc : c < 3) : ct_Sem (d + 2) 51 M [.inr (5, 24), .inl (nI c)] (some (f_Mo_hasGoal (rv M) c), M) := by
  refine SM_of (Nat.le_of_ble_eq_true rfl) ?_
  show mm_Wp pg_Mo_hasGoal rt_Mo_hasGoal (ct_Sem (d + 1)) (M, 0, [some (.inr (5, 24)), some (.inl (nI c))], []) _
  refine wgo (g' := (M, 3, [some (.inr (5, 24)), some (.inl (nI c))], [.inl 1, .inl (nI c), .inr (5, 24)])) [oz 0, oz 0, oz 0] rfl ⟨trivial, trivial, trivial, trivial⟩ ?_
  have s1 := sm_Mo_ofCrane (d := d)  (M := M) (c := c) (w := 1) (by omega)
  refine wgo (g' := (M, 7, [some (.inr (5, 24)), some (.inl (nI c))], [.inl 1, .inl (f_Mo_ofCrane (rv M) c 1)])) [oc (some (f_Mo_ofCrane (rv M) c 1), M), oz 0] rfl ⟨⟨s1, Nat.le_of_ble_eq_true rfl, Nat.le_of_ble_eq_true rfl, ⟨_, rfl⟩⟩, trivial, trivial⟩ ?_
  by_cases h2 : (f_Mo_ofCrane (rv M) c 1) = 1
  · have k3 : (f_Mo_ofCrane ((rv M)) c 1) = 1 := by
      have q : (f_Mo_ofCrane (rv M) c 1) = 1 := h2
      exact q
    refine wgo (g' := (M, 25, [some (.inr (5, 24)), some (.inl (nI c))], [.inl 1])) [oz 1, oz 0, oz 0] rfl ⟨h2, trivial, trivial, trivial⟩ ?_
    have x4 : f_Mo_hasGoal (rv M) c = 1 := by
      unfold f_Mo_hasGoal
      rw [if_pos k3]
    exact wend ⟨_, rfl, rfl, Or.inr rfl⟩ (congrArg (fun q => (some q, M)) x4.symm)
  · have k5 : ¬ ((f_Mo_ofCrane ((rv M)) c 1) = 1) := by
      have q : ¬ ((f_Mo_ofCrane (rv M) c 1) = 1) := h2
      exact q
    refine wgo (g' := (M, 13, [some (.inr (5, 24)), some (.inl (nI c))], [.inl 1, .inl (nI c), .inr (5, 24)])) [oz 0, oz 0, oz 0, oz 0] rfl ⟨h2, trivial, trivial, trivial, trivial⟩ ?_
    have s6 := sm_Mo_ofCrane (d := d)  (M := M) (c := c) (w := 1) (by omega)
    refine wgo (g' := (M, 17, [some (.inr (5, 24)), some (.inl (nI c))], [.inl 3, .inl (f_Mo_ofCrane (rv M) c 1)])) [oc (some (f_Mo_ofCrane (rv M) c 1), M), oz 0] rfl ⟨⟨s6, Nat.le_of_ble_eq_true rfl, Nat.le_of_ble_eq_true rfl, ⟨_, rfl⟩⟩, trivial, trivial⟩ ?_
    by_cases h7 : (f_Mo_ofCrane (rv M) c 1) = 3
    · have k8 : (f_Mo_ofCrane ((rv M)) c 1) = 3 := by
        have q : (f_Mo_ofCrane (rv M) c 1) = 3 := h7
        exact q
      refine wgo (g' := (M, 25, [some (.inr (5, 24)), some (.inl (nI c))], [.inl 1])) [oz 0, oz 0, oz 0] rfl ⟨(fun z => z h7), trivial, trivial, trivial⟩ ?_
      have x9 : f_Mo_hasGoal (rv M) c = 1 := by
        unfold f_Mo_hasGoal
        rw [if_neg k5, if_pos k8]
      exact wend ⟨_, rfl, rfl, Or.inr rfl⟩ (congrArg (fun q => (some q, M)) x9.symm)
    · have k10 : ¬ ((f_Mo_ofCrane ((rv M)) c 1) = 3) := by
        have q : ¬ ((f_Mo_ofCrane (rv M) c 1) = 3) := h7
        exact q
      refine wgo (g' := (M, 25, [some (.inr (5, 24)), some (.inl (nI c))], [.inl 0])) [oz 1, oz 0] rfl ⟨h7, trivial, trivial⟩ ?_
      have x11 : f_Mo_hasGoal (rv M) c = 0 := by
        unfold f_Mo_hasGoal
        rw [if_neg k5, if_neg k10]
      exact wend ⟨_, rfl, rfl, Or.inl rfl⟩ (congrArg (fun q => (some q, M)) x11.symm)
def f_Mo_goalOf (A : mm_M) (c : Nat) : Int32 := (if (f_Mo_ofCrane (A) c 1) = 1 then f_Mo_ofJob (A) (ix (f_Mo_ofCrane (A) c 2)) 0 else f_Mo_ofJob (A) (ix (f_Mo_ofCrane (A) c 2)) 1)
set_option maxRecDepth 20000 in
set_option maxHeartbeats 1000000 in
theorem sm_Mo_goalOf {d : Nat} {M : mm_M} {c : Nat} (hc : c < 3) (hj : okx 8 (f_Mo_ofCrane (rv M) c 2)) : ct_Sem (d + 2) 52 M [.inr (5, 24), .inl (nI c)] (some (f_Mo_goalOf (rv M) c), M) := by
  refine SM_of (Nat.le_of_ble_eq_true rfl) ?_
  show mm_Wp pg_Mo_goalOf rt_Mo_goalOf (ct_Sem (d + 1)) (M, 0, [some (.inr (5, 24)), some (.inl (nI c))], []) _
  refine wgo (g' := (M, 4, [some (.inr (5, 24)), some (.inl (nI c))], [.inl 2, .inl (nI c), .inr (5, 24), .inr (5, 24)])) [oz 0, oz 0, oz 0, oz 0] rfl ⟨trivial, trivial, trivial, trivial, trivial⟩ ?_
  have s1 := sm_Mo_ofCrane (d := d)  (M := M) (c := c) (w := 2) (by omega)
  refine wgo (g' := (M, 10, [some (.inr (5, 24)), some (.inl (nI c))], [.inl 1, .inl (nI c), .inr (5, 24), .inl (f_Mo_ofCrane (rv M) c 2), .inr (5, 24)])) [oc (some (f_Mo_ofCrane (rv M) c 2), M), oz 0, oz 0, oz 0] rfl ⟨⟨s1, Nat.le_of_ble_eq_true rfl, Nat.le_of_ble_eq_true rfl, ⟨_, rfl⟩⟩, trivial, trivial, trivial, trivial⟩ ?_
  have s2 := sm_Mo_ofCrane (d := d)  (M := M) (c := c) (w := 1) (by omega)
  refine wgo (g' := (M, 14, [some (.inr (5, 24)), some (.inl (nI c))], [.inl 1, .inl (f_Mo_ofCrane (rv M) c 1), .inl (f_Mo_ofCrane (rv M) c 2), .inr (5, 24)])) [oc (some (f_Mo_ofCrane (rv M) c 1), M), oz 0] rfl ⟨⟨s2, Nat.le_of_ble_eq_true rfl, Nat.le_of_ble_eq_true rfl, ⟨_, rfl⟩⟩, trivial, trivial⟩ ?_
  by_cases h3 : (f_Mo_ofCrane (rv M) c 1) = 1
  · have k4 : (f_Mo_ofCrane ((rv M)) c 1) = 1 := by
      have q : (f_Mo_ofCrane (rv M) c 1) = 1 := h3
      exact q
    refine wgo (g' := (M, 22, [some (.inr (5, 24)), some (.inl (nI c))], [.inl 0, .inl (f_Mo_ofCrane (rv M) c 2), .inr (5, 24)])) [oz 0, oz 0, oz 0] rfl ⟨(fun z => z h3), trivial, trivial, trivial⟩ ?_
    have s5 := sm_Mo_ofJob (d := d)  (M := M) (j := ix (f_Mo_ofCrane (rv M) c 2)) (w := 0) (by have q := hj.2; omega)
    rw [← (hj).1] at s5
    refine wgo (g' := (M, 25, [some (.inr (5, 24)), some (.inl (nI c))], [.inl (f_Mo_ofJob (rv M) (ix (f_Mo_ofCrane (rv M) c 2)) 0)])) [oc (some (f_Mo_ofJob (rv M) (ix (f_Mo_ofCrane (rv M) c 2)) 0), M)] rfl ⟨⟨s5, Nat.le_of_ble_eq_true rfl, Nat.le_of_ble_eq_true rfl, ⟨_, rfl⟩⟩, trivial⟩ ?_
    have x6 : f_Mo_goalOf (rv M) c = f_Mo_ofJob ((rv M)) (ix (f_Mo_ofCrane ((rv M)) c 2)) 0 := by
      unfold f_Mo_goalOf
      rw [if_pos k4]
    exact wend ⟨_, rfl, rfl⟩ (congrArg (fun q => (some q, M)) x6.symm)
  · have k7 : ¬ ((f_Mo_ofCrane ((rv M)) c 1) = 1) := by
      have q : ¬ ((f_Mo_ofCrane (rv M) c 1) = 1) := h3
      exact q
    refine wgo (g' := (M, 22, [some (.inr (5, 24)), some (.inl (nI c))], [.inl 1, .inl (f_Mo_ofCrane (rv M) c 2), .inr (5, 24)])) [oz 1, oz 0] rfl ⟨h3, trivial, trivial⟩ ?_
    have s8 := sm_Mo_ofJob (d := d)  (M := M) (j := ix (f_Mo_ofCrane (rv M) c 2)) (w := 1) (by have q := hj.2; omega)
    rw [← (hj).1] at s8
    refine wgo (g' := (M, 25, [some (.inr (5, 24)), some (.inl (nI c))], [.inl (f_Mo_ofJob (rv M) (ix (f_Mo_ofCrane (rv M) c 2)) 1)])) [oc (some (f_Mo_ofJob (rv M) (ix (f_Mo_ofCrane (rv M) c 2)) 1), M)] rfl ⟨⟨s8, Nat.le_of_ble_eq_true rfl, Nat.le_of_ble_eq_true rfl, ⟨_, rfl⟩⟩, trivial⟩ ?_
    have x9 : f_Mo_goalOf (rv M) c = f_Mo_ofJob ((rv M)) (ix (f_Mo_ofCrane ((rv M)) c 2)) 1 := by
      unfold f_Mo_goalOf
      rw [if_neg k7]
    exact wend ⟨_, rfl, rfl⟩ (congrArg (fun q => (some q, M)) x9.symm)
def f_Mo_reaches (A : mm_M) (c : Nat) (j : Nat) : Int32 := (if (f_Mo_in (f_Mo_ofJob (A) j 0) ((A) 1 c) ((A) 2 c)) = 0 then 0 else (if (f_Mo_in (f_Mo_ofJob (A) j 1) ((A) 1 c) ((A) 2 c)) = 0 then 0 else 1))
set_option maxRecDepth 20000 in
set_option maxHeartbeats 1000000 in
theorem sm_Mo_reaches {d : Nat} {M : mm_M} {c : Nat} {j : Nat} (hc : c < 3) (hj : j < 8) : ct_Sem (d + 2) 45 M [.inr (5, 24), .inl (nI c), .inl (nI j)] (some (f_Mo_reaches (rv M) c j), M) := by
  refine SM_of (Nat.le_of_ble_eq_true rfl) ?_
  show mm_Wp pg_Mo_reaches rt_Mo_reaches (ct_Sem (d + 1)) (M, 0, [some (.inr (5, 24)), some (.inl (nI c)), some (.inl (nI j))], []) _
  refine wgo (g' := (M, 3, [some (.inr (5, 24)), some (.inl (nI c)), some (.inl (nI j))], [.inl 0, .inl (nI j), .inr (5, 24)])) [oz 0, oz 0, oz 0] rfl ⟨trivial, trivial, trivial, trivial⟩ ?_
  have s1 := sm_Mo_ofJob (d := d)  (M := M) (j := j) (w := 0) (by omega)
  refine wgo (g' := (M, 18, [some (.inr (5, 24)), some (.inl (nI c)), some (.inl (nI j))], [.inl (M 26 c), .inl (M 25 c), .inl (f_Mo_ofJob (rv M) j 0)])) [oc (some (f_Mo_ofJob (rv M) j 0), M), oz 0, oz 0, oz 0, oz c, oz 0, oz 0, oz 0, oz c] rfl ⟨⟨s1, Nat.le_of_ble_eq_true rfl, Nat.le_of_ble_eq_true rfl, ⟨_, rfl⟩⟩, trivial, trivial, trivial, ⟨rfl, (show c < 3 from by omega)⟩, trivial, trivial, trivial, ⟨rfl, (show c < 3 from by omega)⟩, trivial⟩ ?_
  have s2 := sm_Mo_in (d := d)  (M := M) (v := f_Mo_ofJob (rv M) j 0) (a := M 25 c) (e := M 26 c) 
  refine wgo (g' := (M, 21, [some (.inr (5, 24)), some (.inl (nI c)), some (.inl (nI j))], [.inl (f_Mo_in (f_Mo_ofJob (rv M) j 0) (M 25 c) (M 26 c))])) [oc (some (f_Mo_in (f_Mo_ofJob (rv M) j 0) (M 25 c) (M 26 c)), M)] rfl ⟨⟨s2, Nat.le_of_ble_eq_true rfl, Nat.le_of_ble_eq_true rfl, trivial⟩, trivial⟩ ?_
  by_cases h3 : (f_Mo_in (f_Mo_ofJob (rv M) j 0) (M 25 c) (M 26 c)) = 0
  · have k4 : (f_Mo_in (f_Mo_ofJob ((rv M)) j 0) (((rv M)) 1 c) (((rv M)) 2 c)) = 0 := by
      have q : (f_Mo_in (f_Mo_ofJob (rv M) j 0) ((rv M) 1 c) ((rv M) 2 c)) = 0 := h3
      exact q
    refine wgo (g' := (M, 53, [some (.inr (5, 24)), some (.inl (nI c)), some (.inl (nI j))], [.inl 0])) [oz 1, oz 0] rfl ⟨h3, trivial, trivial⟩ ?_
    have x5 : f_Mo_reaches (rv M) c j = 0 := by
      unfold f_Mo_reaches
      rw [if_pos k4]
    exact wend ⟨_, rfl, rfl, Or.inl rfl⟩ (congrArg (fun q => (some q, M)) x5.symm)
  · have k6 : ¬ ((f_Mo_in (f_Mo_ofJob ((rv M)) j 0) (((rv M)) 1 c) (((rv M)) 2 c)) = 0) := by
      have q : ¬ ((f_Mo_in (f_Mo_ofJob (rv M) j 0) ((rv M) 1 c) ((rv M) 2 c)) = 0) := h3
      exact q
    refine wgo (g' := (M, 27, [some (.inr (5, 24)), some (.inl (nI c)), some (.inl (nI j))], [.inl 1, .inl (nI j), .inr (5, 24)])) [oz 0, oz 0, oz 0, oz 0] rfl ⟨h3, trivial, trivial, trivial, trivial⟩ ?_
    have s7 := sm_Mo_ofJob (d := d)  (M := M) (j := j) (w := 1) (by omega)
    refine wgo (g' := (M, 42, [some (.inr (5, 24)), some (.inl (nI c)), some (.inl (nI j))], [.inl (M 26 c), .inl (M 25 c), .inl (f_Mo_ofJob (rv M) j 1)])) [oc (some (f_Mo_ofJob (rv M) j 1), M), oz 0, oz 0, oz 0, oz c, oz 0, oz 0, oz 0, oz c] rfl ⟨⟨s7, Nat.le_of_ble_eq_true rfl, Nat.le_of_ble_eq_true rfl, ⟨_, rfl⟩⟩, trivial, trivial, trivial, ⟨rfl, (show c < 3 from by omega)⟩, trivial, trivial, trivial, ⟨rfl, (show c < 3 from by omega)⟩, trivial⟩ ?_
    have s8 := sm_Mo_in (d := d)  (M := M) (v := f_Mo_ofJob (rv M) j 1) (a := M 25 c) (e := M 26 c) 
    refine wgo (g' := (M, 45, [some (.inr (5, 24)), some (.inl (nI c)), some (.inl (nI j))], [.inl (f_Mo_in (f_Mo_ofJob (rv M) j 1) (M 25 c) (M 26 c))])) [oc (some (f_Mo_in (f_Mo_ofJob (rv M) j 1) (M 25 c) (M 26 c)), M)] rfl ⟨⟨s8, Nat.le_of_ble_eq_true rfl, Nat.le_of_ble_eq_true rfl, trivial⟩, trivial⟩ ?_
    by_cases h9 : (f_Mo_in (f_Mo_ofJob (rv M) j 1) (M 25 c) (M 26 c)) = 0
    · have k10 : (f_Mo_in (f_Mo_ofJob ((rv M)) j 1) (((rv M)) 1 c) (((rv M)) 2 c)) = 0 := by
        have q : (f_Mo_in (f_Mo_ofJob (rv M) j 1) ((rv M) 1 c) ((rv M) 2 c)) = 0 := h9
        exact q
      refine wgo (g' := (M, 53, [some (.inr (5, 24)), some (.inl (nI c)), some (.inl (nI j))], [.inl 0])) [oz 1, oz 0] rfl ⟨h9, trivial, trivial⟩ ?_
      have x11 : f_Mo_reaches (rv M) c j = 0 := by
        unfold f_Mo_reaches
        rw [if_neg k6, if_pos k10]
      exact wend ⟨_, rfl, rfl, Or.inl rfl⟩ (congrArg (fun q => (some q, M)) x11.symm)
    · have k12 : ¬ ((f_Mo_in (f_Mo_ofJob ((rv M)) j 1) (((rv M)) 1 c) (((rv M)) 2 c)) = 0) := by
        have q : ¬ ((f_Mo_in (f_Mo_ofJob (rv M) j 1) ((rv M) 1 c) ((rv M) 2 c)) = 0) := h9
        exact q
      refine wgo (g' := (M, 53, [some (.inr (5, 24)), some (.inl (nI c)), some (.inl (nI j))], [.inl 1])) [oz 0, oz 0, oz 0] rfl ⟨h9, trivial, trivial, trivial⟩ ?_
      have x13 : f_Mo_reaches (rv M) c j = 1 := by
        unfold f_Mo_reaches
        rw [if_neg k6, if_neg k12]
      exact wend ⟨_, rfl, rfl, Or.inr rfl⟩ (congrArg (fun q => (some q, M)) x13.symm)
def f_Mo_giveTo (A : mm_M) (j : Nat) (c : Nat) : Int32 × mm_M := (0, mm_up ((f_Mo_setJob ((f_Mo_setJob ((f_Mo_setJob (A) j 3 1).2) j 4 (nI c)).2) j 6 (((f_Mo_setJob ((f_Mo_setJob (A) j 3 1).2) j 4 (nI c)).2) 3 2)).2) 3 2 ((((f_Mo_setJob ((f_Mo_setJob ((f_Mo_setJob (A) j 3 1).2) j 4 (nI c)).2) j 6 (((f_Mo_setJob ((f_Mo_setJob (A) j 3 1).2) j 4 (nI c)).2) 3 2)).2) 3 2) + 1))
set_option maxRecDepth 20000 in
set_option maxHeartbeats 1000000 in
theorem rs_Mo_giveTo {d : Nat} {M : mm_M} {j : Nat} {c : Nat}  (hj : j < 8) : RS (d + 2) 46  M [.inr (5, 24), .inl (nI j), .inl (nI c)] (none) (f_Mo_giveTo (rv M) j c).2 := by
  refine RS_of (Nat.le_of_ble_eq_true rfl) ?_
  show mm_Wp pg_Mo_giveTo rt_Mo_giveTo (ct_Sem (d + 1)) (M, 0, [some (.inr (5, 24)), some (.inl (nI j)), some (.inl (nI c))], []) _
  refine wgo (g' := (M, 4, [some (.inr (5, 24)), some (.inl (nI j)), some (.inl (nI c))], [.inl 1, .inl 3, .inl (nI j), .inr (5, 24)])) [oz 0, oz 0, oz 0, oz 0] rfl ⟨trivial, trivial, trivial, trivial, trivial⟩ ?_
  obtain ⟨M1, s2, a3, w4⟩ := rs_Mo_setJob (d := d)  (M := M) (j := j) (w := 3) (x := 1)  (by omega)
  have a3 : rv M1 = (f_Mo_setJob ((rv M)) j 3 1).2 := a3.trans (show (f_Mo_setJob ((rv M)) j 3 1).2 = _ from by first | rfl | simp only [rv])
  have w4 : rf M M1 := rf_tr rf_rf w4
  refine wgo (g' := (M1, 11, [some (.inr (5, 24)), some (.inl (nI j)), some (.inl (nI c))], [.inl (nI c), .inl 4, .inl (nI j), .inr (5, 24)])) [oc (none, M1), oz 0, oz 0, oz 0, oz 0] rfl ⟨⟨s2, Nat.le_of_ble_eq_true rfl, Nat.le_of_ble_eq_true rfl, ⟨_, rfl⟩⟩, trivial, trivial, trivial, trivial, trivial⟩ ?_
  obtain ⟨M5, s6, a7, w8⟩ := rs_Mo_setJob (d := d)  (M := M1) (j := j) (w := 4) (x := nI c)  (by omega)
  have a7 : rv M5 = (f_Mo_setJob ((f_Mo_setJob ((rv M)) j 3 1).2) j 4 (nI c)).2 := a7.trans (show (f_Mo_setJob ((rv M1)) j 4 (nI c)).2 = _ from by first | rfl | simp only [a3])
  have w8 : rf M M5 := rf_tr w4 w8
  refine wgo (g' := (M5, 24, [some (.inr (5, 24)), some (.inl (nI j)), some (.inl (nI c))], [.inl (M5 27 2), .inl 6, .inl (nI j), .inr (5, 24)])) [oc (none, M5), oz 0, oz 0, oz 0, oz 0, oz 0, oz 0, oz 2] rfl ⟨⟨s6, Nat.le_of_ble_eq_true rfl, Nat.le_of_ble_eq_true rfl, ⟨_, rfl⟩⟩, trivial, trivial, trivial, trivial, trivial, trivial, ⟨rfl, by decide⟩, trivial⟩ ?_
  obtain ⟨M9, s10, a11, w12⟩ := rs_Mo_setJob (d := d)  (M := M5) (j := j) (w := 6) (x := M5 27 2)  (by omega)
  have a11 : rv M9 = (f_Mo_setJob ((f_Mo_setJob ((f_Mo_setJob ((rv M)) j 3 1).2) j 4 (nI c)).2) j 6 (((f_Mo_setJob ((f_Mo_setJob ((rv M)) j 3 1).2) j 4 (nI c)).2) 3 2)).2 := a11.trans (show (f_Mo_setJob ((rv M5)) j 6 ((rv M5) 3 2)).2 = _ from by first | rfl | simp only [a3, a7])
  have w12 : rf M M9 := rf_tr w8 w12
  refine wgo (g' := (mm_up M9 27 2 ((M9 27 2) + 1), 37, [some (.inr (5, 24)), some (.inl (nI j)), some (.inl (nI c))], [])) [oc (none, M9), oz 0, oz 0, oz 0, oz 0, oz 2, oz 0, oz 0, oz 2] rfl ⟨⟨s10, Nat.le_of_ble_eq_true rfl, Nat.le_of_ble_eq_true rfl, ⟨_, rfl⟩⟩, trivial, trivial, trivial, trivial, ⟨rfl, by decide⟩, trivial, trivial, ⟨rfl, by decide⟩, trivial⟩ ?_
  generalize e14 : mm_up M9 27 2 ((M9 27 2) + 1) = M13
  have a15 : rv M13 = mm_up ((f_Mo_setJob ((f_Mo_setJob ((f_Mo_setJob ((rv M)) j 3 1).2) j 4 (nI c)).2) j 6 (((f_Mo_setJob ((f_Mo_setJob ((rv M)) j 3 1).2) j 4 (nI c)).2) 3 2)).2) 3 2 ((((f_Mo_setJob ((f_Mo_setJob ((f_Mo_setJob ((rv M)) j 3 1).2) j 4 (nI c)).2) j 6 (((f_Mo_setJob ((f_Mo_setJob ((rv M)) j 3 1).2) j 4 (nI c)).2) 3 2)).2) 3 2) + 1) := by
    rw [← e14]
    refine (rv_up 3).trans ?_
    show mm_up ((rv M9)) 3 2 (((rv M9) 3 2) + 1) = _
    first | rfl | simp only [a3, a7, a11]
  have w16 : rf M M13 := by rw [← e14]; exact rf_up w12 (by decide)
  have x17 : f_Mo_giveTo (rv M) j c = (0, mm_up ((f_Mo_setJob ((f_Mo_setJob ((f_Mo_setJob ((rv M)) j 3 1).2) j 4 (nI c)).2) j 6 (((f_Mo_setJob ((f_Mo_setJob ((rv M)) j 3 1).2) j 4 (nI c)).2) 3 2)).2) 3 2 ((((f_Mo_setJob ((f_Mo_setJob ((f_Mo_setJob ((rv M)) j 3 1).2) j 4 (nI c)).2) j 6 (((f_Mo_setJob ((f_Mo_setJob ((rv M)) j 3 1).2) j 4 (nI c)).2) 3 2)).2) 3 2) + 1)) := by
    unfold f_Mo_giveTo
    rfl
  exact wend ⟨rfl, rfl⟩ ⟨rfl, a15.trans (congrArg Prod.snd x17).symm, w16⟩
def f_fst : Nat → mm_M → Nat → Int32 → Nat → Int32
  | 0, _, _, _, _ => 0
  | r + 1, A, c, x, i => (if ((A) 0 5) ≤ (nI i) then x else (if (f_Mo_ofJob (A) i 3) = 1 then (if (f_Mo_ofJob (A) i 4) = (nI c) then (if x < 0 then (f_fst r (A) c (nI i) (i + 1)) else (if (f_Mo_ofJob (A) (ix x) 6) ≤ (f_Mo_ofJob (A) i 6) then (f_fst r (A) c x (i + 1)) else (f_fst r (A) c (nI i) (i + 1)))) else (f_fst r (A) c x (i + 1))) else (f_fst r (A) c x (i + 1))))
set_option maxRecDepth 20000 in
set_option maxHeartbeats 1000000 in
theorem lp_fst {d : Nat} {M : mm_M} {c : Nat}  {n : Nat} (hn : rv M 0 5 = nI n) (hn8 : n ≤ 8) : ∀ (r : Nat) (x : Int32) (i : Nat) (o4 : Option mm_V), (x < 0 ∨ okx 8 x) → (i ≤ n) → (n < i + r) → mm_Wp pg_Mo_firstOf rt_Mo_firstOf (ct_Sem (d + 1)) (M, 4, [some (.inr (5, 24)), some (.inl (nI c)), some (.inl x), some (.inl (nI i)), o4], []) (fun res => res = (some (f_fst r (rv M) c x i), M)) := by
  intro r
  induction r with
  | zero =>
    intro x i o4 hx hi hr
    exfalso; omega
  | succ r ih =>
    intro x i o4 hx hi hr
    refine wgo (g' := (M, 9, [some (.inr (5, 24)), some (.inl (nI c)), some (.inl x), some (.inl (nI i)), o4], [.inl (M 24 5), .inl (nI i)])) [oz 0, oz 0, oz 0] rfl ⟨trivial, trivial, trivial, trivial⟩ ?_
    by_cases h1 : (M 24 5) ≤ (nI i)
    · have k2 : (((rv M)) 0 5) ≤ (nI i) := by
        have q : ((rv M) 0 5) ≤ (nI i) := h1
        exact q
      refine wgo (g' := (M, 74, [some (.inr (5, 24)), some (.inl (nI c)), some (.inl x), some (.inl (nI i)), o4], [.inl x])) [oz 1, oz 0] rfl ⟨h1, trivial, trivial⟩ ?_
      have x3 : f_fst (r + 1) (rv M) c x i = x := by
        rw [f_fst]
        rw [if_pos k2]
      exact wend ⟨_, rfl, rfl⟩ (congrArg (fun q => (some q, M)) x3.symm)
    · have k4 : ¬ ((((rv M)) 0 5) ≤ (nI i)) := by
        have q : ¬ (((rv M) 0 5) ≤ (nI i)) := h1
        exact q
      refine wgo (g' := (M, 15, [some (.inr (5, 24)), some (.inl (nI c)), some (.inl x), some (.inl (nI i)), o4], [.inl 3, .inl (nI i), .inr (5, 24)])) [oz 0, oz 0, oz 0, oz 0] rfl ⟨h1, trivial, trivial, trivial, trivial⟩ ?_
      have s5 := sm_Mo_ofJob (d := d)  (M := M) (j := i) (w := 3) (by have q := (nI_sl hn (by omega) hi k4); omega)
      refine wgo (g' := (M, 19, [some (.inr (5, 24)), some (.inl (nI c)), some (.inl x), some (.inl (nI i)), o4], [.inl 1, .inl (f_Mo_ofJob (rv M) i 3)])) [oc (some (f_Mo_ofJob (rv M) i 3), M), oz 0] rfl ⟨⟨s5, Nat.le_of_ble_eq_true rfl, Nat.le_of_ble_eq_true rfl, ⟨_, rfl⟩⟩, trivial, trivial⟩ ?_
      by_cases h6 : (f_Mo_ofJob (rv M) i 3) = 1
      · have k7 : (f_Mo_ofJob ((rv M)) i 3) = 1 := by
          have q : (f_Mo_ofJob (rv M) i 3) = 1 := h6
          exact q
        refine wgo (g' := (M, 25, [some (.inr (5, 24)), some (.inl (nI c)), some (.inl x), some (.inl (nI i)), o4], [.inl 4, .inl (nI i), .inr (5, 24)])) [oz 0, oz 0, oz 0, oz 0] rfl ⟨(fun z => z h6), trivial, trivial, trivial, trivial⟩ ?_
        have s8 := sm_Mo_ofJob (d := d)  (M := M) (j := i) (w := 4) (by have q := (nI_sl hn (by omega) hi k4); omega)
        refine wgo (g' := (M, 29, [some (.inr (5, 24)), some (.inl (nI c)), some (.inl x), some (.inl (nI i)), o4], [.inl (nI c), .inl (f_Mo_ofJob (rv M) i 4)])) [oc (some (f_Mo_ofJob (rv M) i 4), M), oz 0] rfl ⟨⟨s8, Nat.le_of_ble_eq_true rfl, Nat.le_of_ble_eq_true rfl, ⟨_, rfl⟩⟩, trivial, trivial⟩ ?_
        by_cases h9 : (f_Mo_ofJob (rv M) i 4) = (nI c)
        · have k10 : (f_Mo_ofJob ((rv M)) i 4) = (nI c) := by
            have q : (f_Mo_ofJob (rv M) i 4) = (nI c) := h9
            exact q
          refine wgo (g' := (M, 45, [some (.inr (5, 24)), some (.inl (nI c)), some (.inl x), some (.inl (nI i)), some (.inl 1)], [.inl x])) [oz 0, oz 0, oz 0, oz 0, oz 0, oz 0, oz 0] rfl ⟨(fun z => z h9), trivial, trivial, Nat.le_of_ble_eq_true rfl, trivial, (by decide), trivial, trivial⟩ ?_
          by_cases h11 : x < 0
          · have k12 : x < 0 := by
              have q : x < 0 := h11
              exact q
            refine wgo (g' := (M, 4, [some (.inr (5, 24)), some (.inl (nI c)), some (.inl (nI i)), some (.inl ((nI i) + 1)), some (.inl 1)], [])) [oz 1, oz 0, oz 0, oz 0, oz 0] rfl ⟨h11, trivial, Nat.le_of_ble_eq_true rfl, trivial, trivial, trivial⟩ ?_
            rw [nI_1 i]
            have x13 : f_fst (r + 1) (rv M) c x i = f_fst r ((rv M)) c (nI i) (i + 1) := by
              rw [f_fst]
              rw [if_neg k4, if_pos k7, if_pos k10, if_pos k12]
            rw [x13]
            exact ih (nI i) (i + 1) (some (.inl 1)) (Or.inr (okx_nI (Nat.lt_of_lt_of_le (nI_sl hn (by omega) hi k4) hn8) (by decide))) (nI_sl hn (by omega) hi k4) (by omega)
          · have k14 : ¬ (x < 0) := by
              have q : ¬ (x < 0) := h11
              exact q
            refine wgo (g' := (M, 52, [some (.inr (5, 24)), some (.inl (nI c)), some (.inl x), some (.inl (nI i)), some (.inl 1)], [.inl 6, .inl (nI i), .inr (5, 24)])) [oz 0, oz 0, oz 0, oz 0] rfl ⟨h11, trivial, trivial, trivial, trivial⟩ ?_
            have s15 := sm_Mo_ofJob (d := d)  (M := M) (j := i) (w := 6) (by have q := (nI_sl hn (by omega) hi k4); omega)
            refine wgo (g' := (M, 59, [some (.inr (5, 24)), some (.inl (nI c)), some (.inl x), some (.inl (nI i)), some (.inl 1)], [.inl 6, .inl x, .inr (5, 24), .inl (f_Mo_ofJob (rv M) i 6)])) [oc (some (f_Mo_ofJob (rv M) i 6), M), oz 0, oz 0, oz 0] rfl ⟨⟨s15, Nat.le_of_ble_eq_true rfl, Nat.le_of_ble_eq_true rfl, ⟨_, rfl⟩⟩, trivial, trivial, trivial, trivial⟩ ?_
            have s16 := sm_Mo_ofJob (d := d)  (M := M) (j := ix x) (w := 6) (by have q := (hx.resolve_left k14).2; omega)
            rw [← ((hx.resolve_left k14)).1] at s16
            refine wgo (g' := (M, 62, [some (.inr (5, 24)), some (.inl (nI c)), some (.inl x), some (.inl (nI i)), some (.inl 1)], [.inl (f_Mo_ofJob (rv M) (ix x) 6), .inl (f_Mo_ofJob (rv M) i 6)])) [oc (some (f_Mo_ofJob (rv M) (ix x) 6), M)] rfl ⟨⟨s16, Nat.le_of_ble_eq_true rfl, Nat.le_of_ble_eq_true rfl, ⟨_, rfl⟩⟩, trivial⟩ ?_
            by_cases h17 : (f_Mo_ofJob (rv M) (ix x) 6) ≤ (f_Mo_ofJob (rv M) i 6)
            · have k18 : (f_Mo_ofJob ((rv M)) (ix x) 6) ≤ (f_Mo_ofJob ((rv M)) i 6) := by
                have q : (f_Mo_ofJob (rv M) (ix x) 6) ≤ (f_Mo_ofJob (rv M) i 6) := h17
                exact q
              refine wgo (g' := (M, 4, [some (.inr (5, 24)), some (.inl (nI c)), some (.inl x), some (.inl ((nI i) + 1)), some (.inl 1)], [])) [oz 1, oz 0, oz 0] rfl ⟨h17, trivial, trivial, trivial⟩ ?_
              rw [nI_1 i]
              have x19 : f_fst (r + 1) (rv M) c x i = f_fst r ((rv M)) c x (i + 1) := by
                rw [f_fst]
                rw [if_neg k4, if_pos k7, if_pos k10, if_neg k14, if_pos k18]
              rw [x19]
              exact ih x (i + 1) (some (.inl 1)) hx (nI_sl hn (by omega) hi k4) (by omega)
            · have k20 : ¬ ((f_Mo_ofJob ((rv M)) (ix x) 6) ≤ (f_Mo_ofJob ((rv M)) i 6)) := by
                have q : ¬ ((f_Mo_ofJob (rv M) (ix x) 6) ≤ (f_Mo_ofJob (rv M) i 6)) := h17
                exact q
              refine wgo (g' := (M, 4, [some (.inr (5, 24)), some (.inl (nI c)), some (.inl (nI i)), some (.inl ((nI i) + 1)), some (.inl 1)], [])) [oz 0, oz 0, oz 0, oz 0, oz 0] rfl ⟨h17, trivial, Nat.le_of_ble_eq_true rfl, trivial, trivial, trivial⟩ ?_
              rw [nI_1 i]
              have x21 : f_fst (r + 1) (rv M) c x i = f_fst r ((rv M)) c (nI i) (i + 1) := by
                rw [f_fst]
                rw [if_neg k4, if_pos k7, if_pos k10, if_neg k14, if_neg k20]
              rw [x21]
              exact ih (nI i) (i + 1) (some (.inl 1)) (Or.inr (okx_nI (Nat.lt_of_lt_of_le (nI_sl hn (by omega) hi k4) hn8) (by decide))) (nI_sl hn (by omega) hi k4) (by omega)
        · have k22 : ¬ ((f_Mo_ofJob ((rv M)) i 4) = (nI c)) := by
            have q : ¬ ((f_Mo_ofJob (rv M) i 4) = (nI c)) := h9
            exact q
          refine wgo (g' := (M, 4, [some (.inr (5, 24)), some (.inl (nI c)), some (.inl x), some (.inl ((nI i) + 1)), some (.inl 0)], [])) [oz 1, oz 0, oz 0, oz 0, oz 1, oz 0, oz 0] rfl ⟨h9, trivial, Nat.le_of_ble_eq_true rfl, trivial, rfl, trivial, trivial, trivial⟩ ?_
          rw [nI_1 i]
          have x23 : f_fst (r + 1) (rv M) c x i = f_fst r ((rv M)) c x (i + 1) := by
            rw [f_fst]
            rw [if_neg k4, if_pos k7, if_neg k22]
          rw [x23]
          exact ih x (i + 1) (some (.inl 0)) hx (nI_sl hn (by omega) hi k4) (by omega)
      · have k24 : ¬ ((f_Mo_ofJob ((rv M)) i 3) = 1) := by
          have q : ¬ ((f_Mo_ofJob (rv M) i 3) = 1) := h6
          exact q
        refine wgo (g' := (M, 4, [some (.inr (5, 24)), some (.inl (nI c)), some (.inl x), some (.inl ((nI i) + 1)), some (.inl 0)], [])) [oz 1, oz 0, oz 0, oz 0, oz 1, oz 0, oz 0] rfl ⟨h6, trivial, Nat.le_of_ble_eq_true rfl, trivial, rfl, trivial, trivial, trivial⟩ ?_
        rw [nI_1 i]
        have x25 : f_fst (r + 1) (rv M) c x i = f_fst r ((rv M)) c x (i + 1) := by
          rw [f_fst]
          rw [if_neg k4, if_neg k24]
        rw [x25]
        exact ih x (i + 1) (some (.inl 0)) hx (nI_sl hn (by omega) hi k4) (by omega)
def f_Mo_firstOf (A : mm_M) (c : Nat) : Int32 := (f_fst 9 (A) c ((-1)) 0)
set_option maxRecDepth 20000 in
set_option maxHeartbeats 1000000 in
theorem sm_Mo_firstOf {d : Nat} {M : mm_M} {c : Nat} {n : Nat} (hn : rv M 0 5 = nI n) (hn8 : n ≤ 8) : ct_Sem (d + 2) 50 M [.inr (5, 24), .inl (nI c)] (some (f_Mo_firstOf (rv M) c), M) := by
  refine SM_of (Nat.le_of_ble_eq_true rfl) ?_
  show mm_Wp pg_Mo_firstOf rt_Mo_firstOf (ct_Sem (d + 1)) (M, 0, [some (.inr (5, 24)), some (.inl (nI c)), none, none, none], []) _
  refine wgo (g' := (M, 4, [some (.inr (5, 24)), some (.inl (nI c)), some (.inl ((-1))), some (.inl 0), none], [])) [oz 0, oz 0, oz 0, oz 0] rfl ⟨trivial, Nat.le_of_ble_eq_true rfl, trivial, Nat.le_of_ble_eq_true rfl, trivial⟩ ?_
  have x1 : f_Mo_firstOf (rv M) c = f_fst 9 ((rv M)) c ((-1)) 0 := by
    unfold f_Mo_firstOf
    rfl
  rw [x1]
  exact lp_fst (d := d)  (M := M) hn hn8 9 ((-1)) 0 (none) (Or.inl (by decide)) (Nat.zero_le _) (by omega)
end
section
theorem f_fst_ok {X : mm_M} {c n : Nat} (hn : X 0 5 = nI n) (hn8 : n ≤ 8) : ∀ (r i : Nat) (x : Int32), i ≤ n → (x < 0 ∨ okx 8 x) → (f_fst r X c x i < 0 ∨ okx 8 (f_fst r X c x i)) := by
  intro r
  induction r with
  | zero => exact fun i x _ _ => Or.inr (okx_nI (j := 0) (by decide) (by decide))
  | succ r ih =>
    intro i x hi hx
    rw [f_fst]
    by_cases h1 : X 0 5 ≤ nI i
    · rw [if_pos h1]; exact hx
    · rw [if_neg h1]
      have hlt := nI_sl hn (by omega) hi h1
      have hj : nI i < 0 ∨ okx 8 (nI i) := Or.inr (okx_nI (by omega) (by decide))
      repeat' split
      all_goals first | exact ih _ _ hlt hx | exact ih _ _ hlt hj
theorem f_first_ok {X : mm_M} {c n : Nat} (hn : X 0 5 = nI n) (hn8 : n ≤ 8) : f_Mo_firstOf X c < 0 ∨ okx 8 (f_Mo_firstOf X c) := f_fst_ok hn hn8 9 0 (-1) (Nat.zero_le _) (Or.inl (by decide))
def f_Mo_takesJob (A : mm_M) (c : Nat) : Int32 × mm_M := (if (f_Mo_firstOf (A) c) < 0 then (0, A) else (if (f_Mo_ofJob (A) (ix (f_Mo_firstOf (A) c)) 2) ≤ ((A) 3 0) then (if (f_Mo_ofCrane ((f_Mo_setCrane ((f_Mo_setJob (A) (ix (f_Mo_firstOf (A) c)) 3 2).2) c 2 (f_Mo_firstOf (A) c)).2) c 0) = (f_Mo_ofJob ((f_Mo_setCrane ((f_Mo_setJob (A) (ix (f_Mo_firstOf (A) c)) 3 2).2) c 2 (f_Mo_firstOf (A) c)).2) (ix (f_Mo_firstOf (A) c)) 0) then (0, (f_Mo_begins ((f_Mo_setCrane ((f_Mo_setJob (A) (ix (f_Mo_firstOf (A) c)) 3 2).2) c 2 (f_Mo_firstOf (A) c)).2) c 2).2) else (0, (f_Mo_setCrane ((f_Mo_setCrane ((f_Mo_setJob (A) (ix (f_Mo_firstOf (A) c)) 3 2).2) c 2 (f_Mo_firstOf (A) c)).2) c 1 1).2)) else (0, A)))
set_option maxRecDepth 20000 in
set_option maxHeartbeats 1000000 in
theorem rs_Mo_takesJob {d : Nat} {M : mm_M} {c : Nat}  {n : Nat} (hc : c < 3) (hn : rv M 0 5 = nI n) (hn8 : n ≤ 8) : RS (d + 3) 54  M [.inr (5, 24), .inl (nI c)] (none) (f_Mo_takesJob (rv M) c).2 := by
  refine RS_of (Nat.le_of_ble_eq_true rfl) ?_
  show mm_Wp pg_Mo_takesJob rt_Mo_takesJob (ct_Sem (d + 2)) (M, 0, [some (.inr (5, 24)), some (.inl (nI c)), none], []) _
  refine wgo (g' := (M, 2, [some (.inr (5, 24)), some (.inl (nI c)), none], [.inl (nI c), .inr (5, 24)])) [oz 0, oz 0] rfl ⟨trivial, trivial, trivial⟩ ?_
  have s1 := sm_Mo_firstOf (d := d)  (M := M) (c := c) hn hn8
  refine wgo (g' := (M, 7, [some (.inr (5, 24)), some (.inl (nI c)), some (.inl (f_Mo_firstOf (rv M) c))], [.inl (f_Mo_firstOf (rv M) c)])) [oc (some (f_Mo_firstOf (rv M) c), M), oz 0, oz 0] rfl ⟨⟨s1, Nat.le_of_ble_eq_true rfl, Nat.le_of_ble_eq_true rfl, ⟨_, rfl⟩⟩, Nat.le_of_ble_eq_true rfl, trivial, trivial⟩ ?_
  by_cases h2 : (f_Mo_firstOf (rv M) c) < 0
  · have k3 : (f_Mo_firstOf ((rv M)) c) < 0 := by
      have q : (f_Mo_firstOf (rv M) c) < 0 := h2
      exact q
    refine wgo (g' := (M, 25, [some (.inr (5, 24)), some (.inl (nI c)), some (.inl (f_Mo_firstOf (rv M) c))], [])) [oz 1] rfl ⟨h2, trivial⟩ ?_
    have x4 : f_Mo_takesJob (rv M) c = (0, (rv M)) := by
      unfold f_Mo_takesJob
      rw [if_pos k3]
    exact wend ⟨rfl, rfl⟩ ⟨rfl, (congrArg Prod.snd x4).symm, rf_rf⟩
  · have k5 : ¬ ((f_Mo_firstOf ((rv M)) c) < 0) := by
      have q : ¬ ((f_Mo_firstOf (rv M) c) < 0) := h2
      exact q
    refine wgo (g' := (M, 19, [some (.inr (5, 24)), some (.inl (nI c)), some (.inl (f_Mo_firstOf (rv M) c))], [.inl 2, .inl (f_Mo_firstOf (rv M) c), .inr (5, 24), .inl (M 27 0)])) [oz 0, oz 0, oz 0, oz 0, oz 0, oz 0, oz 0, oz 0] rfl ⟨h2, trivial, trivial, trivial, ⟨rfl, by decide⟩, trivial, trivial, trivial, trivial⟩ ?_
    have s6 := sm_Mo_ofJob (d := d + 1)  (M := M) (j := ix (f_Mo_firstOf (rv M) c)) (w := 2) (by have q := ((f_first_ok hn hn8).resolve_left k5).2; omega)
    rw [← (((f_first_ok hn hn8).resolve_left k5)).1] at s6
    refine wgo (g' := (M, 22, [some (.inr (5, 24)), some (.inl (nI c)), some (.inl (f_Mo_firstOf (rv M) c))], [.inl (f_Mo_ofJob (rv M) (ix (f_Mo_firstOf (rv M) c)) 2), .inl (M 27 0)])) [oc (some (f_Mo_ofJob (rv M) (ix (f_Mo_firstOf (rv M) c)) 2), M)] rfl ⟨⟨s6, Nat.le_of_ble_eq_true rfl, Nat.le_of_ble_eq_true rfl, ⟨_, rfl⟩⟩, trivial⟩ ?_
    by_cases h7 : (f_Mo_ofJob (rv M) (ix (f_Mo_firstOf (rv M) c)) 2) ≤ (M 27 0)
    · have k8 : (f_Mo_ofJob ((rv M)) (ix (f_Mo_firstOf ((rv M)) c)) 2) ≤ (((rv M)) 3 0) := by
        have q : (f_Mo_ofJob (rv M) (ix (f_Mo_firstOf (rv M) c)) 2) ≤ ((rv M) 3 0) := h7
        exact q
      refine wgo (g' := (M, 30, [some (.inr (5, 24)), some (.inl (nI c)), some (.inl (f_Mo_firstOf (rv M) c))], [.inl 2, .inl 3, .inl (f_Mo_firstOf (rv M) c), .inr (5, 24)])) [oz 1, oz 0, oz 0, oz 0, oz 0] rfl ⟨h7, trivial, trivial, trivial, trivial, trivial⟩ ?_
      obtain ⟨M9, s10, a11, w12⟩ := rs_Mo_setJob (d := d + 1)  (M := M) (j := ix (f_Mo_firstOf (rv M) c)) (w := 3) (x := 2)  (by have q := ((f_first_ok hn hn8).resolve_left k5).2; omega)
      rw [← (((f_first_ok hn hn8).resolve_left k5)).1] at s10
      have a11 : rv M9 = (f_Mo_setJob ((rv M)) (ix (f_Mo_firstOf ((rv M)) c)) 3 2).2 := a11.trans (show (f_Mo_setJob ((rv M)) (ix (f_Mo_firstOf (rv M) c)) 3 2).2 = _ from by first | rfl | simp only [rv])
      have w12 : rf M M9 := rf_tr rf_rf w12
      refine wgo (g' := (M9, 37, [some (.inr (5, 24)), some (.inl (nI c)), some (.inl (f_Mo_firstOf (rv M) c))], [.inl (f_Mo_firstOf (rv M) c), .inl 2, .inl (nI c), .inr (5, 24)])) [oc (none, M9), oz 0, oz 0, oz 0, oz 0] rfl ⟨⟨s10, Nat.le_of_ble_eq_true rfl, Nat.le_of_ble_eq_true rfl, ⟨_, rfl⟩⟩, trivial, trivial, trivial, trivial, trivial⟩ ?_
      obtain ⟨M13, s14, a15, w16⟩ := rs_Mo_setCrane (d := d + 1)  (M := M9) (c := c) (w := 2) (x := f_Mo_firstOf (rv M) c)  (by omega)
      have a15 : rv M13 = (f_Mo_setCrane ((f_Mo_setJob ((rv M)) (ix (f_Mo_firstOf ((rv M)) c)) 3 2).2) c 2 (f_Mo_firstOf ((rv M)) c)).2 := a15.trans (show (f_Mo_setCrane ((rv M9)) c 2 (f_Mo_firstOf (rv M) c)).2 = _ from by first | rfl | simp only [a11])
      have w16 : rf M M13 := rf_tr w12 w16
      refine wgo (g' := (M13, 43, [some (.inr (5, 24)), some (.inl (nI c)), some (.inl (f_Mo_firstOf (rv M) c))], [.inl 0, .inl (nI c), .inr (5, 24)])) [oc (none, M13), oz 0, oz 0, oz 0] rfl ⟨⟨s14, Nat.le_of_ble_eq_true rfl, Nat.le_of_ble_eq_true rfl, ⟨_, rfl⟩⟩, trivial, trivial, trivial, trivial⟩ ?_
      have s17 := sm_Mo_ofCrane (d := d + 1)  (M := M13) (c := c) (w := 0) (by omega)
      refine wgo (g' := (M13, 49, [some (.inr (5, 24)), some (.inl (nI c)), some (.inl (f_Mo_firstOf (rv M) c))], [.inl 0, .inl (f_Mo_firstOf (rv M) c), .inr (5, 24), .inl (f_Mo_ofCrane (rv M13) c 0)])) [oc (some (f_Mo_ofCrane (rv M13) c 0), M13), oz 0, oz 0, oz 0] rfl ⟨⟨s17, Nat.le_of_ble_eq_true rfl, Nat.le_of_ble_eq_true rfl, ⟨_, rfl⟩⟩, trivial, trivial, trivial, trivial⟩ ?_
      have s18 := sm_Mo_ofJob (d := d + 1)  (M := M13) (j := ix (f_Mo_firstOf (rv M) c)) (w := 0) (by have q := ((f_first_ok hn hn8).resolve_left k5).2; omega)
      rw [← (((f_first_ok hn hn8).resolve_left k5)).1] at s18
      refine wgo (g' := (M13, 52, [some (.inr (5, 24)), some (.inl (nI c)), some (.inl (f_Mo_firstOf (rv M) c))], [.inl (f_Mo_ofJob (rv M13) (ix (f_Mo_firstOf (rv M) c)) 0), .inl (f_Mo_ofCrane (rv M13) c 0)])) [oc (some (f_Mo_ofJob (rv M13) (ix (f_Mo_firstOf (rv M) c)) 0), M13)] rfl ⟨⟨s18, Nat.le_of_ble_eq_true rfl, Nat.le_of_ble_eq_true rfl, ⟨_, rfl⟩⟩, trivial⟩ ?_
      by_cases h19 : (f_Mo_ofCrane (rv M13) c 0) = (f_Mo_ofJob (rv M13) (ix (f_Mo_firstOf (rv M) c)) 0)
      · have k20 : (f_Mo_ofCrane ((f_Mo_setCrane ((f_Mo_setJob ((rv M)) (ix (f_Mo_firstOf ((rv M)) c)) 3 2).2) c 2 (f_Mo_firstOf ((rv M)) c)).2) c 0) = (f_Mo_ofJob ((f_Mo_setCrane ((f_Mo_setJob ((rv M)) (ix (f_Mo_firstOf ((rv M)) c)) 3 2).2) c 2 (f_Mo_firstOf ((rv M)) c)).2) (ix (f_Mo_firstOf ((rv M)) c)) 0) := by
          have q : (f_Mo_ofCrane (rv M13) c 0) = (f_Mo_ofJob (rv M13) (ix (f_Mo_firstOf (rv M) c)) 0) := h19
          first | exact q | (simp only [a11, a15] at q; exact q)
        refine wgo (g' := (M13, 58, [some (.inr (5, 24)), some (.inl (nI c)), some (.inl (f_Mo_firstOf (rv M) c))], [.inl 2, .inl (nI c), .inr (5, 24)])) [oz 0, oz 0, oz 0, oz 0] rfl ⟨(fun z => z h19), trivial, trivial, trivial, trivial⟩ ?_
        obtain ⟨M21, s22, a23, w24⟩ := rs_Mo_begins (d := d)  (M := M13) (c := c) (x := 2)  hc
        have a23 : rv M21 = (f_Mo_begins ((f_Mo_setCrane ((f_Mo_setJob ((rv M)) (ix (f_Mo_firstOf ((rv M)) c)) 3 2).2) c 2 (f_Mo_firstOf ((rv M)) c)).2) c 2).2 := a23.trans (show (f_Mo_begins ((rv M13)) c 2).2 = _ from by first | rfl | simp only [a11, a15])
        have w24 : rf M M21 := rf_tr w16 w24
        refine wgo (g' := (M21, 71, [some (.inr (5, 24)), some (.inl (nI c)), some (.inl (f_Mo_firstOf (rv M) c))], [])) [oc (none, M21), oz 0] rfl ⟨⟨s22, Nat.le_of_ble_eq_true rfl, Nat.le_of_ble_eq_true rfl, ⟨_, rfl⟩⟩, trivial, trivial⟩ ?_
        have x25 : f_Mo_takesJob (rv M) c = (0, (f_Mo_begins ((f_Mo_setCrane ((f_Mo_setJob ((rv M)) (ix (f_Mo_firstOf ((rv M)) c)) 3 2).2) c 2 (f_Mo_firstOf ((rv M)) c)).2) c 2).2) := by
          unfold f_Mo_takesJob
          rw [if_neg k5, if_pos k8, if_pos k20]
        exact wend ⟨rfl, rfl⟩ ⟨rfl, a23.trans (congrArg Prod.snd x25).symm, w24⟩
      · have k26 : ¬ ((f_Mo_ofCrane ((f_Mo_setCrane ((f_Mo_setJob ((rv M)) (ix (f_Mo_firstOf ((rv M)) c)) 3 2).2) c 2 (f_Mo_firstOf ((rv M)) c)).2) c 0) = (f_Mo_ofJob ((f_Mo_setCrane ((f_Mo_setJob ((rv M)) (ix (f_Mo_firstOf ((rv M)) c)) 3 2).2) c 2 (f_Mo_firstOf ((rv M)) c)).2) (ix (f_Mo_firstOf ((rv M)) c)) 0)) := by
          have q : ¬ ((f_Mo_ofCrane (rv M13) c 0) = (f_Mo_ofJob (rv M13) (ix (f_Mo_firstOf (rv M) c)) 0)) := h19
          first | exact q | (simp only [a11, a15] at q; exact q)
        refine wgo (g' := (M13, 68, [some (.inr (5, 24)), some (.inl (nI c)), some (.inl (f_Mo_firstOf (rv M) c))], [.inl 1, .inl 1, .inl (nI c), .inr (5, 24)])) [oz 1, oz 0, oz 0, oz 0, oz 0] rfl ⟨h19, trivial, trivial, trivial, trivial, trivial⟩ ?_
        obtain ⟨M27, s28, a29, w30⟩ := rs_Mo_setCrane (d := d + 1)  (M := M13) (c := c) (w := 1) (x := 1)  (by omega)
        have a29 : rv M27 = (f_Mo_setCrane ((f_Mo_setCrane ((f_Mo_setJob ((rv M)) (ix (f_Mo_firstOf ((rv M)) c)) 3 2).2) c 2 (f_Mo_firstOf ((rv M)) c)).2) c 1 1).2 := a29.trans (show (f_Mo_setCrane ((rv M13)) c 1 1).2 = _ from by first | rfl | simp only [a11, a15])
        have w30 : rf M M27 := rf_tr w16 w30
        refine wgo (g' := (M27, 71, [some (.inr (5, 24)), some (.inl (nI c)), some (.inl (f_Mo_firstOf (rv M) c))], [])) [oc (none, M27)] rfl ⟨⟨s28, Nat.le_of_ble_eq_true rfl, Nat.le_of_ble_eq_true rfl, ⟨_, rfl⟩⟩, trivial⟩ ?_
        have x31 : f_Mo_takesJob (rv M) c = (0, (f_Mo_setCrane ((f_Mo_setCrane ((f_Mo_setJob ((rv M)) (ix (f_Mo_firstOf ((rv M)) c)) 3 2).2) c 2 (f_Mo_firstOf ((rv M)) c)).2) c 1 1).2) := by
          unfold f_Mo_takesJob
          rw [if_neg k5, if_pos k8, if_neg k26]
        exact wend ⟨rfl, rfl⟩ ⟨rfl, a29.trans (congrArg Prod.snd x31).symm, w30⟩
    · have k32 : ¬ ((f_Mo_ofJob ((rv M)) (ix (f_Mo_firstOf ((rv M)) c)) 2) ≤ (((rv M)) 3 0)) := by
        have q : ¬ ((f_Mo_ofJob (rv M) (ix (f_Mo_firstOf (rv M) c)) 2) ≤ ((rv M) 3 0)) := h7
        exact q
      refine wgo (g' := (M, 25, [some (.inr (5, 24)), some (.inl (nI c)), some (.inl (f_Mo_firstOf (rv M) c))], [])) [oz 0] rfl ⟨h7, trivial⟩ ?_
      have x33 : f_Mo_takesJob (rv M) c = (0, (rv M)) := by
        unfold f_Mo_takesJob
        rw [if_neg k5, if_neg k32]
      exact wend ⟨rfl, rfl⟩ ⟨rfl, (congrArg Prod.snd x33).symm, rf_rf⟩
def f_go175 (A : mm_M) (c : Nat) (t : Int32) (a : Int32) (w : Int32) : Int32 × mm_M := (if w = a then (0, (f_Mo_setCrane (A) c 0 w).2) else (1, (f_Mo_setCrane (A) c 0 w).2))
set_option maxRecDepth 20000 in
set_option maxHeartbeats 1000000 in
theorem sg_go175 {d : Nat} {M : mm_M} {A : mm_M} {Mz : mm_M} {c : Nat} {t : Int32} {a : Int32} {w : Int32}  (hA : rv Mz = A) (hf : rf M Mz) (hc : c < 3) : mm_Wp pg_Mo_goes rt_Mo_goes (ct_Sem (d + 1)) (Mz, 175, [some (.inr (5, 24)), some (.inl (nI c)), some (.inl t), some (.inl a), some (.inl w)], []) (rQ M (some (f_go175 A c t a w).1) (f_go175 A c t a w).2) := by
  refine wgo (g' := (Mz, 180, [some (.inr (5, 24)), some (.inl (nI c)), some (.inl t), some (.inl a), some (.inl w)], [.inl w, .inl 0, .inl (nI c), .inr (5, 24)])) [oz 0, oz 0, oz 0, oz 0] rfl ⟨trivial, trivial, trivial, trivial, trivial⟩ ?_
  obtain ⟨M1, s2, a3, w4⟩ := rs_Mo_setCrane (d := d)  (M := Mz) (c := c) (w := 0) (x := w)  (by omega)
  have a3 : rv M1 = (f_Mo_setCrane (A) c 0 w).2 := a3.trans (show (f_Mo_setCrane ((rv Mz)) c 0 w).2 = _ from by first | rfl | simp only [hA])
  have w4 : rf M M1 := rf_tr hf w4
  refine wgo (g' := (M1, 186, [some (.inr (5, 24)), some (.inl (nI c)), some (.inl t), some (.inl a), some (.inl w)], [.inl a, .inl w])) [oc (none, M1), oz 0, oz 0] rfl ⟨⟨s2, Nat.le_of_ble_eq_true rfl, Nat.le_of_ble_eq_true rfl, ⟨_, rfl⟩⟩, trivial, trivial, trivial⟩ ?_
  by_cases h5 : w = a
  · have k6 : w = a := by
      have q : w = a := h5
      first | exact q | (simp only [hA, a3] at q; exact q)
    refine wgo (g' := (M1, 194, [some (.inr (5, 24)), some (.inl (nI c)), some (.inl t), some (.inl a), some (.inl w)], [.inl 0])) [oz 1, oz 0] rfl ⟨h5, trivial, trivial⟩ ?_
    have x7 : f_go175 A c t a w = (0, (f_Mo_setCrane (A) c 0 w).2) := by
      unfold f_go175
      rw [if_pos k6]
    exact wend ⟨_, rfl, rfl, Or.inl rfl⟩ ⟨congrArg some ((show (0 : Int32) = 0 from by first | rfl | simp only [hA, a3]).trans (congrArg Prod.fst x7).symm), a3.trans (congrArg Prod.snd x7).symm, w4⟩
  · have k8 : ¬ (w = a) := by
      have q : ¬ (w = a) := h5
      first | exact q | (simp only [hA, a3] at q; exact q)
    refine wgo (g' := (M1, 194, [some (.inr (5, 24)), some (.inl (nI c)), some (.inl t), some (.inl a), some (.inl w)], [.inl 1])) [oz 0, oz 0, oz 0] rfl ⟨h5, trivial, trivial, trivial⟩ ?_
    have x9 : f_go175 A c t a w = (1, (f_Mo_setCrane (A) c 0 w).2) := by
      unfold f_go175
      rw [if_neg k8]
    exact wend ⟨_, rfl, rfl, Or.inr rfl⟩ ⟨congrArg some ((show (1 : Int32) = 1 from by first | rfl | simp only [hA, a3]).trans (congrArg Prod.fst x9).symm), a3.trans (congrArg Prod.snd x9).symm, w4⟩
def f_go80 (A : mm_M) (c : Nat) (t : Int32) (a : Int32) (w : Int32) : Int32 × mm_M := (if a ≤ w then (f_go175 (A) c t a w) else (f_go175 (A) c t a a))
set_option maxRecDepth 20000 in
set_option maxHeartbeats 1000000 in
theorem sg_go80 {d : Nat} {M : mm_M} {A : mm_M} {Mz : mm_M} {c : Nat} {t : Int32} {a : Int32} {w : Int32}  (hA : rv Mz = A) (hf : rf M Mz) (hc : c < 3) : mm_Wp pg_Mo_goes rt_Mo_goes (ct_Sem (d + 1)) (Mz, 80, [some (.inr (5, 24)), some (.inl (nI c)), some (.inl t), some (.inl a), some (.inl w)], []) (rQ M (some (f_go80 A c t a w).1) (f_go80 A c t a w).2) := by
  refine wgo (g' := (Mz, 83, [some (.inr (5, 24)), some (.inl (nI c)), some (.inl t), some (.inl a), some (.inl w)], [.inl a, .inl w])) [oz 0, oz 0] rfl ⟨trivial, trivial, trivial⟩ ?_
  by_cases h1 : a ≤ w
  · have k2 : a ≤ w := by
      have q : a ≤ w := h1
      first | exact q | (simp only [hA] at q; exact q)
    refine wgo (g' := (Mz, 175, [some (.inr (5, 24)), some (.inl (nI c)), some (.inl t), some (.inl a), some (.inl w)], [])) [oz 1, oz 0, oz 0, oz 0] rfl ⟨h1, trivial, Nat.le_of_ble_eq_true rfl, trivial, trivial⟩ ?_
    have x3 : f_go80 A c t a w = f_go175 (A) c t a w := by
      unfold f_go80
      rw [if_pos k2]
    rw [x3]
    exact sg_go175 (d := d)  (M := M) (Mz := Mz) (c := c) (t := t) (a := a) (w := w)  hA hf hc
  · have k4 : ¬ (a ≤ w) := by
      have q : ¬ (a ≤ w) := h1
      first | exact q | (simp only [hA] at q; exact q)
    refine wgo (g' := (Mz, 175, [some (.inr (5, 24)), some (.inl (nI c)), some (.inl t), some (.inl a), some (.inl a)], [])) [oz 0, oz 0, oz 0, oz 0, oz 0] rfl ⟨h1, trivial, trivial, Nat.le_of_ble_eq_true rfl, trivial, trivial⟩ ?_
    have x5 : f_go80 A c t a w = f_go175 (A) c t a a := by
      unfold f_go80
      rw [if_neg k4]
    rw [x5]
    exact sg_go175 (d := d)  (M := M) (Mz := Mz) (c := c) (t := t) (a := a) (w := a)  hA hf hc
def f_go37 (A : mm_M) (c : Nat) (t : Int32) (a : Int32) (w : Int32) : Int32 × mm_M := (if ((A) 0 1) ≤ ((nI c) + 1) then (f_go80 (A) c t a w) else (if w ≤ ((f_Mo_ofCrane (A) (c + 1) 0) - ((A) 0 2)) then (f_go80 (A) c t a w) else (f_go80 (A) c t a ((f_Mo_ofCrane (A) (c + 1) 0) - ((A) 0 2)))))
set_option maxRecDepth 20000 in
set_option maxHeartbeats 1000000 in
theorem sg_go37 {d : Nat} {M : mm_M} {A : mm_M} {Mz : mm_M} {c : Nat} {t : Int32} {a : Int32} {w : Int32}  (hA : rv Mz = A) (hf : rf M Mz) (hc : c < 3) : mm_Wp pg_Mo_goes rt_Mo_goes (ct_Sem (d + 1)) (Mz, 37, [some (.inr (5, 24)), some (.inl (nI c)), some (.inl t), some (.inl a), some (.inl w)], []) (rQ M (some (f_go37 A c t a w).1) (f_go37 A c t a w).2) := by
  refine wgo (g' := (Mz, 44, [some (.inr (5, 24)), some (.inl (nI c)), some (.inl t), some (.inl a), some (.inl w)], [.inl (Mz 24 1), .inl ((nI c) + 1)])) [oz 0, oz 0, oz 0, oz 0, oz 0] rfl ⟨trivial, trivial, trivial, trivial, trivial, trivial⟩ ?_
  by_cases h1 : (Mz 24 1) ≤ ((nI c) + 1)
  · have k2 : ((A) 0 1) ≤ ((nI c) + 1) := by
      have q : ((rv Mz) 0 1) ≤ ((nI c) + 1) := h1
      first | exact q | (simp only [hA] at q; exact q)
    refine wgo (g' := (Mz, 80, [some (.inr (5, 24)), some (.inl (nI c)), some (.inl t), some (.inl a), some (.inl w)], [])) [oz 1] rfl ⟨h1, trivial⟩ ?_
    have x3 : f_go37 A c t a w = f_go80 (A) c t a w := by
      unfold f_go37
      rw [if_pos k2]
    rw [x3]
    exact sg_go80 (d := d)  (M := M) (Mz := Mz) (c := c) (t := t) (a := a) (w := w)  hA hf hc
  · have k4 : ¬ (((A) 0 1) ≤ ((nI c) + 1)) := by
      have q : ¬ (((rv Mz) 0 1) ≤ ((nI c) + 1)) := h1
      first | exact q | (simp only [hA] at q; exact q)
    refine wgo (g' := (Mz, 54, [some (.inr (5, 24)), some (.inl (nI c)), some (.inl t), some (.inl a), some (.inl w)], [.inl 0, .inl ((nI c) + 1), .inr (5, 24), .inl w])) [oz 0, oz 0, oz 0, oz 0, oz 0, oz 0, oz 0] rfl ⟨h1, trivial, trivial, trivial, trivial, trivial, trivial, trivial⟩ ?_
    have s5 := sm_Mo_ofCrane (d := d)  (M := Mz) (c := c + 1) (w := 0) (by omega)
    rw [← (nI_1 c)] at s5
    refine wgo (g' := (Mz, 62, [some (.inr (5, 24)), some (.inl (nI c)), some (.inl t), some (.inl a), some (.inl w)], [.inl ((f_Mo_ofCrane (rv Mz) (c + 1) 0) - (Mz 24 2)), .inl w])) [oc (some (f_Mo_ofCrane (rv Mz) (c + 1) 0), Mz), oz 0, oz 0, oz 0] rfl ⟨⟨s5, Nat.le_of_ble_eq_true rfl, Nat.le_of_ble_eq_true rfl, ⟨_, rfl⟩⟩, trivial, trivial, trivial, trivial⟩ ?_
    by_cases h6 : w ≤ ((f_Mo_ofCrane (rv Mz) (c + 1) 0) - (Mz 24 2))
    · have k7 : w ≤ ((f_Mo_ofCrane (A) (c + 1) 0) - ((A) 0 2)) := by
        have q : w ≤ ((f_Mo_ofCrane (rv Mz) (c + 1) 0) - ((rv Mz) 0 2)) := h6
        first | exact q | (simp only [hA] at q; exact q)
      refine wgo (g' := (Mz, 80, [some (.inr (5, 24)), some (.inl (nI c)), some (.inl t), some (.inl a), some (.inl w)], [])) [oz 1] rfl ⟨h6, trivial⟩ ?_
      have x8 : f_go37 A c t a w = f_go80 (A) c t a w := by
        unfold f_go37
        rw [if_neg k4, if_pos k7]
      rw [x8]
      exact sg_go80 (d := d)  (M := M) (Mz := Mz) (c := c) (t := t) (a := a) (w := w)  hA hf hc
    · have k9 : ¬ (w ≤ ((f_Mo_ofCrane (A) (c + 1) 0) - ((A) 0 2))) := by
        have q : ¬ (w ≤ ((f_Mo_ofCrane (rv Mz) (c + 1) 0) - ((rv Mz) 0 2))) := h6
        first | exact q | (simp only [hA] at q; exact q)
      refine wgo (g' := (Mz, 70, [some (.inr (5, 24)), some (.inl (nI c)), some (.inl t), some (.inl a), some (.inl w)], [.inl 0, .inl ((nI c) + 1), .inr (5, 24)])) [oz 0, oz 0, oz 0, oz 0, oz 0, oz 0] rfl ⟨h6, trivial, trivial, trivial, trivial, trivial, trivial⟩ ?_
      have s10 := sm_Mo_ofCrane (d := d)  (M := Mz) (c := c + 1) (w := 0) (by omega)
      rw [← (nI_1 c)] at s10
      refine wgo (g' := (Mz, 80, [some (.inr (5, 24)), some (.inl (nI c)), some (.inl t), some (.inl a), some (.inl ((f_Mo_ofCrane (rv Mz) (c + 1) 0) - (Mz 24 2)))], [])) [oc (some (f_Mo_ofCrane (rv Mz) (c + 1) 0), Mz), oz 0, oz 0, oz 0, oz 0] rfl ⟨⟨s10, Nat.le_of_ble_eq_true rfl, Nat.le_of_ble_eq_true rfl, ⟨_, rfl⟩⟩, trivial, trivial, trivial, Nat.le_of_ble_eq_true rfl, trivial⟩ ?_
      have x11 : f_go37 A c t a w = f_go80 (A) c t a ((f_Mo_ofCrane (A) (c + 1) 0) - ((A) 0 2)) := by
        unfold f_go37
        rw [if_neg k4, if_neg k9]
      rw [x11]
      have q12 := sg_go80 (d := d)  (M := M) (Mz := Mz) (c := c) (t := t) (a := a) (w := ((f_Mo_ofCrane (rv Mz) (c + 1) 0) - (Mz 24 2)))  hA hf hc
      have z13 : f_go80 (A) c t a ((f_Mo_ofCrane (rv Mz) (c + 1) 0) - (Mz 24 2)) = f_go80 (A) c t a ((f_Mo_ofCrane (A) (c + 1) 0) - ((A) 0 2)) := (show f_go80 (A) c t a ((f_Mo_ofCrane (rv Mz) (c + 1) 0) - ((rv Mz) 0 2)) = f_go80 (A) c t a ((f_Mo_ofCrane (A) (c + 1) 0) - ((A) 0 2)) from by first | rfl | simp only [hA])
      rw [z13] at q12
      exact q12
def f_go161 (A : mm_M) (c : Nat) (t : Int32) (a : Int32) (w : Int32) : Int32 × mm_M := (if w ≤ a then (f_go175 (A) c t a w) else (f_go175 (A) c t a a))
set_option maxRecDepth 20000 in
set_option maxHeartbeats 1000000 in
theorem sg_go161 {d : Nat} {M : mm_M} {A : mm_M} {Mz : mm_M} {c : Nat} {t : Int32} {a : Int32} {w : Int32}  (hA : rv Mz = A) (hf : rf M Mz) (hc : c < 3) : mm_Wp pg_Mo_goes rt_Mo_goes (ct_Sem (d + 1)) (Mz, 161, [some (.inr (5, 24)), some (.inl (nI c)), some (.inl t), some (.inl a), some (.inl w)], []) (rQ M (some (f_go161 A c t a w).1) (f_go161 A c t a w).2) := by
  refine wgo (g' := (Mz, 164, [some (.inr (5, 24)), some (.inl (nI c)), some (.inl t), some (.inl a), some (.inl w)], [.inl a, .inl w])) [oz 0, oz 0] rfl ⟨trivial, trivial, trivial⟩ ?_
  by_cases h1 : w ≤ a
  · have k2 : w ≤ a := by
      have q : w ≤ a := h1
      first | exact q | (simp only [hA] at q; exact q)
    refine wgo (g' := (Mz, 175, [some (.inr (5, 24)), some (.inl (nI c)), some (.inl t), some (.inl a), some (.inl w)], [])) [oz 1, oz 0, oz 0] rfl ⟨h1, trivial, Nat.le_of_ble_eq_true rfl, trivial⟩ ?_
    have x3 : f_go161 A c t a w = f_go175 (A) c t a w := by
      unfold f_go161
      rw [if_pos k2]
    rw [x3]
    exact sg_go175 (d := d)  (M := M) (Mz := Mz) (c := c) (t := t) (a := a) (w := w)  hA hf hc
  · have k4 : ¬ (w ≤ a) := by
      have q : ¬ (w ≤ a) := h1
      first | exact q | (simp only [hA] at q; exact q)
    refine wgo (g' := (Mz, 175, [some (.inr (5, 24)), some (.inl (nI c)), some (.inl t), some (.inl a), some (.inl a)], [])) [oz 0, oz 0, oz 0, oz 0] rfl ⟨h1, trivial, trivial, Nat.le_of_ble_eq_true rfl, trivial⟩ ?_
    have x5 : f_go161 A c t a w = f_go175 (A) c t a a := by
      unfold f_go161
      rw [if_neg k4]
    rw [x5]
    exact sg_go175 (d := d)  (M := M) (Mz := Mz) (c := c) (t := t) (a := a) (w := a)  hA hf hc
def f_go124 (A : mm_M) (c : Nat) (t : Int32) (a : Int32) (w : Int32) : Int32 × mm_M := (if (nI c) ≤ 0 then (f_go161 (A) c t a w) else (if ((f_Mo_ofCrane (A) (c - 1) 0) + ((A) 0 2)) ≤ w then (f_go161 (A) c t a w) else (f_go161 (A) c t a ((f_Mo_ofCrane (A) (c - 1) 0) + ((A) 0 2)))))
set_option maxRecDepth 20000 in
set_option maxHeartbeats 1000000 in
theorem sg_go124 {d : Nat} {M : mm_M} {A : mm_M} {Mz : mm_M} {c : Nat} {t : Int32} {a : Int32} {w : Int32}  (hA : rv Mz = A) (hf : rf M Mz) (hc : c < 3) : mm_Wp pg_Mo_goes rt_Mo_goes (ct_Sem (d + 1)) (Mz, 124, [some (.inr (5, 24)), some (.inl (nI c)), some (.inl t), some (.inl a), some (.inl w)], []) (rQ M (some (f_go124 A c t a w).1) (f_go124 A c t a w).2) := by
  refine wgo (g' := (Mz, 125, [some (.inr (5, 24)), some (.inl (nI c)), some (.inl t), some (.inl a), some (.inl w)], [.inl (nI c)])) [oz 0] rfl ⟨trivial, trivial⟩ ?_
  by_cases h1 : (nI c) ≤ 0
  · have k2 : (nI c) ≤ 0 := by
      have q : (nI c) ≤ 0 := h1
      first | exact q | (simp only [hA] at q; exact q)
    refine wgo (g' := (Mz, 161, [some (.inr (5, 24)), some (.inl (nI c)), some (.inl t), some (.inl a), some (.inl w)], [])) [oz 1] rfl ⟨h1, trivial⟩ ?_
    have x3 : f_go124 A c t a w = f_go161 (A) c t a w := by
      unfold f_go124
      rw [if_pos k2]
    rw [x3]
    exact sg_go161 (d := d)  (M := M) (Mz := Mz) (c := c) (t := t) (a := a) (w := w)  hA hf hc
  · have k4 : ¬ ((nI c) ≤ 0) := by
      have q : ¬ ((nI c) ≤ 0) := h1
      first | exact q | (simp only [hA] at q; exact q)
    refine wgo (g' := (Mz, 135, [some (.inr (5, 24)), some (.inl (nI c)), some (.inl t), some (.inl a), some (.inl w)], [.inl 0, .inl ((nI c) - 1), .inr (5, 24), .inl w])) [oz 0, oz 0, oz 0, oz 0, oz 0, oz 0, oz 0] rfl ⟨h1, trivial, trivial, trivial, trivial, trivial, trivial, trivial⟩ ?_
    have s5 := sm_Mo_ofCrane (d := d)  (M := Mz) (c := c - 1) (w := 0) (by omega)
    rw [← (nI_m1 (nI_gt0 k4))] at s5
    refine wgo (g' := (Mz, 143, [some (.inr (5, 24)), some (.inl (nI c)), some (.inl t), some (.inl a), some (.inl w)], [.inl ((f_Mo_ofCrane (rv Mz) (c - 1) 0) + (Mz 24 2)), .inl w])) [oc (some (f_Mo_ofCrane (rv Mz) (c - 1) 0), Mz), oz 0, oz 0, oz 0] rfl ⟨⟨s5, Nat.le_of_ble_eq_true rfl, Nat.le_of_ble_eq_true rfl, ⟨_, rfl⟩⟩, trivial, trivial, trivial, trivial⟩ ?_
    by_cases h6 : ((f_Mo_ofCrane (rv Mz) (c - 1) 0) + (Mz 24 2)) ≤ w
    · have k7 : ((f_Mo_ofCrane (A) (c - 1) 0) + ((A) 0 2)) ≤ w := by
        have q : ((f_Mo_ofCrane (rv Mz) (c - 1) 0) + ((rv Mz) 0 2)) ≤ w := h6
        first | exact q | (simp only [hA] at q; exact q)
      refine wgo (g' := (Mz, 161, [some (.inr (5, 24)), some (.inl (nI c)), some (.inl t), some (.inl a), some (.inl w)], [])) [oz 1] rfl ⟨h6, trivial⟩ ?_
      have x8 : f_go124 A c t a w = f_go161 (A) c t a w := by
        unfold f_go124
        rw [if_neg k4, if_pos k7]
      rw [x8]
      exact sg_go161 (d := d)  (M := M) (Mz := Mz) (c := c) (t := t) (a := a) (w := w)  hA hf hc
    · have k9 : ¬ (((f_Mo_ofCrane (A) (c - 1) 0) + ((A) 0 2)) ≤ w) := by
        have q : ¬ (((f_Mo_ofCrane (rv Mz) (c - 1) 0) + ((rv Mz) 0 2)) ≤ w) := h6
        first | exact q | (simp only [hA] at q; exact q)
      refine wgo (g' := (Mz, 151, [some (.inr (5, 24)), some (.inl (nI c)), some (.inl t), some (.inl a), some (.inl w)], [.inl 0, .inl ((nI c) - 1), .inr (5, 24)])) [oz 0, oz 0, oz 0, oz 0, oz 0, oz 0] rfl ⟨h6, trivial, trivial, trivial, trivial, trivial, trivial⟩ ?_
      have s10 := sm_Mo_ofCrane (d := d)  (M := Mz) (c := c - 1) (w := 0) (by omega)
      rw [← (nI_m1 (nI_gt0 k4))] at s10
      refine wgo (g' := (Mz, 161, [some (.inr (5, 24)), some (.inl (nI c)), some (.inl t), some (.inl a), some (.inl ((f_Mo_ofCrane (rv Mz) (c - 1) 0) + (Mz 24 2)))], [])) [oc (some (f_Mo_ofCrane (rv Mz) (c - 1) 0), Mz), oz 0, oz 0, oz 0, oz 0] rfl ⟨⟨s10, Nat.le_of_ble_eq_true rfl, Nat.le_of_ble_eq_true rfl, ⟨_, rfl⟩⟩, trivial, trivial, trivial, Nat.le_of_ble_eq_true rfl, trivial⟩ ?_
      have x11 : f_go124 A c t a w = f_go161 (A) c t a ((f_Mo_ofCrane (A) (c - 1) 0) + ((A) 0 2)) := by
        unfold f_go124
        rw [if_neg k4, if_neg k9]
      rw [x11]
      have q12 := sg_go161 (d := d)  (M := M) (Mz := Mz) (c := c) (t := t) (a := a) (w := ((f_Mo_ofCrane (rv Mz) (c - 1) 0) + (Mz 24 2)))  hA hf hc
      have z13 : f_go161 (A) c t a ((f_Mo_ofCrane (rv Mz) (c - 1) 0) + (Mz 24 2)) = f_go161 (A) c t a ((f_Mo_ofCrane (A) (c - 1) 0) + ((A) 0 2)) := (show f_go161 (A) c t a ((f_Mo_ofCrane (rv Mz) (c - 1) 0) + ((rv Mz) 0 2)) = f_go161 (A) c t a ((f_Mo_ofCrane (A) (c - 1) 0) + ((A) 0 2)) from by first | rfl | simp only [hA])
      rw [z13] at q12
      exact q12
def f_Mo_goes (A : mm_M) (c : Nat) (t : Int32) : Int32 × mm_M := (if t ≤ (f_Mo_ofCrane (A) c 0) then (if (f_Mo_ofCrane (A) c 0) ≤ t then (f_go175 (A) c t (f_Mo_ofCrane (A) c 0) (f_Mo_ofCrane (A) c 0)) else (if t ≤ ((f_Mo_ofCrane (A) c 0) - ((A) 0 3)) then (f_go124 (A) c t (f_Mo_ofCrane (A) c 0) ((f_Mo_ofCrane (A) c 0) - ((A) 0 3))) else (f_go124 (A) c t (f_Mo_ofCrane (A) c 0) t))) else (if ((f_Mo_ofCrane (A) c 0) + ((A) 0 3)) ≤ t then (f_go37 (A) c t (f_Mo_ofCrane (A) c 0) ((f_Mo_ofCrane (A) c 0) + ((A) 0 3))) else (f_go37 (A) c t (f_Mo_ofCrane (A) c 0) t)))
set_option maxRecDepth 20000 in
set_option maxHeartbeats 1000000 in
theorem rs_Mo_goes {d : Nat} {M : mm_M} {c : Nat} {t : Int32}  (hc : c < 3) : RS (d + 2) 55  M [.inr (5, 24), .inl (nI c), .inl t] (some (f_Mo_goes (rv M) c t).1) (f_Mo_goes (rv M) c t).2 := by
  refine RS_of (Nat.le_of_ble_eq_true rfl) ?_
  show mm_Wp pg_Mo_goes rt_Mo_goes (ct_Sem (d + 1)) (M, 0, [some (.inr (5, 24)), some (.inl (nI c)), some (.inl t), none, none], []) _
  refine wgo (g' := (M, 3, [some (.inr (5, 24)), some (.inl (nI c)), some (.inl t), none, none], [.inl 0, .inl (nI c), .inr (5, 24)])) [oz 0, oz 0, oz 0] rfl ⟨trivial, trivial, trivial, trivial⟩ ?_
  have s1 := sm_Mo_ofCrane (d := d)  (M := M) (c := c) (w := 0) (by omega)
  refine wgo (g' := (M, 12, [some (.inr (5, 24)), some (.inl (nI c)), some (.inl t), some (.inl (f_Mo_ofCrane (rv M) c 0)), some (.inl (f_Mo_ofCrane (rv M) c 0))], [.inl (f_Mo_ofCrane (rv M) c 0), .inl t])) [oc (some (f_Mo_ofCrane (rv M) c 0), M), oz 0, oz 0, oz 0, oz 0, oz 0] rfl ⟨⟨s1, Nat.le_of_ble_eq_true rfl, Nat.le_of_ble_eq_true rfl, ⟨_, rfl⟩⟩, Nat.le_of_ble_eq_true rfl, trivial, Nat.le_of_ble_eq_true rfl, trivial, trivial, trivial⟩ ?_
  by_cases h2 : t ≤ (f_Mo_ofCrane (rv M) c 0)
  · have k3 : t ≤ (f_Mo_ofCrane ((rv M)) c 0) := by
      have q : t ≤ (f_Mo_ofCrane (rv M) c 0) := h2
      exact q
    refine wgo (g' := (M, 99, [some (.inr (5, 24)), some (.inl (nI c)), some (.inl t), some (.inl (f_Mo_ofCrane (rv M) c 0)), some (.inl (f_Mo_ofCrane (rv M) c 0))], [.inl (f_Mo_ofCrane (rv M) c 0), .inl t])) [oz 1, oz 0, oz 0] rfl ⟨h2, trivial, trivial, trivial⟩ ?_
    by_cases h4 : (f_Mo_ofCrane (rv M) c 0) ≤ t
    · have k5 : (f_Mo_ofCrane ((rv M)) c 0) ≤ t := by
        have q : (f_Mo_ofCrane (rv M) c 0) ≤ t := h4
        exact q
      refine wgo (g' := (M, 175, [some (.inr (5, 24)), some (.inl (nI c)), some (.inl t), some (.inl (f_Mo_ofCrane (rv M) c 0)), some (.inl (f_Mo_ofCrane (rv M) c 0))], [])) [oz 1] rfl ⟨h4, trivial⟩ ?_
      have x6 : f_Mo_goes (rv M) c t = f_go175 ((rv M)) c t (f_Mo_ofCrane ((rv M)) c 0) (f_Mo_ofCrane ((rv M)) c 0) := by
        unfold f_Mo_goes
        rw [if_pos k3, if_pos k5]
      rw [x6]
      exact sg_go175 (d := d)  (M := M) (Mz := M) (c := c) (t := t) (a := (f_Mo_ofCrane (rv M) c 0)) (w := (f_Mo_ofCrane (rv M) c 0))  rfl rf_rf hc
    · have k7 : ¬ ((f_Mo_ofCrane ((rv M)) c 0) ≤ t) := by
        have q : ¬ ((f_Mo_ofCrane (rv M) c 0) ≤ t) := h4
        exact q
      refine wgo (g' := (M, 109, [some (.inr (5, 24)), some (.inl (nI c)), some (.inl t), some (.inl (f_Mo_ofCrane (rv M) c 0)), some (.inl (f_Mo_ofCrane (rv M) c 0))], [.inl ((f_Mo_ofCrane (rv M) c 0) - (M 24 3)), .inl t])) [oz 0, oz 0, oz 0, oz 0, oz 0, oz 0] rfl ⟨h4, trivial, trivial, trivial, trivial, trivial, trivial⟩ ?_
      by_cases h8 : t ≤ ((f_Mo_ofCrane (rv M) c 0) - (M 24 3))
      · have k9 : t ≤ ((f_Mo_ofCrane ((rv M)) c 0) - (((rv M)) 0 3)) := by
          have q : t ≤ ((f_Mo_ofCrane (rv M) c 0) - ((rv M) 0 3)) := h8
          exact q
        refine wgo (g' := (M, 124, [some (.inr (5, 24)), some (.inl (nI c)), some (.inl t), some (.inl (f_Mo_ofCrane (rv M) c 0)), some (.inl ((f_Mo_ofCrane (rv M) c 0) - (M 24 3)))], [])) [oz 1, oz 0, oz 0, oz 0, oz 0, oz 0] rfl ⟨h8, trivial, trivial, trivial, trivial, Nat.le_of_ble_eq_true rfl, trivial⟩ ?_
        have x10 : f_Mo_goes (rv M) c t = f_go124 ((rv M)) c t (f_Mo_ofCrane ((rv M)) c 0) ((f_Mo_ofCrane ((rv M)) c 0) - (((rv M)) 0 3)) := by
          unfold f_Mo_goes
          rw [if_pos k3, if_neg k7, if_pos k9]
        rw [x10]
        exact sg_go124 (d := d)  (M := M) (Mz := M) (c := c) (t := t) (a := (f_Mo_ofCrane (rv M) c 0)) (w := ((f_Mo_ofCrane (rv M) c 0) - (M 24 3)))  rfl rf_rf hc
      · have k11 : ¬ (t ≤ ((f_Mo_ofCrane ((rv M)) c 0) - (((rv M)) 0 3))) := by
          have q : ¬ (t ≤ ((f_Mo_ofCrane (rv M) c 0) - ((rv M) 0 3))) := h8
          exact q
        refine wgo (g' := (M, 124, [some (.inr (5, 24)), some (.inl (nI c)), some (.inl t), some (.inl (f_Mo_ofCrane (rv M) c 0)), some (.inl t)], [])) [oz 0, oz 0, oz 0, oz 0] rfl ⟨h8, trivial, trivial, Nat.le_of_ble_eq_true rfl, trivial⟩ ?_
        have x12 : f_Mo_goes (rv M) c t = f_go124 ((rv M)) c t (f_Mo_ofCrane ((rv M)) c 0) t := by
          unfold f_Mo_goes
          rw [if_pos k3, if_neg k7, if_neg k11]
        rw [x12]
        exact sg_go124 (d := d)  (M := M) (Mz := M) (c := c) (t := t) (a := (f_Mo_ofCrane (rv M) c 0)) (w := t)  rfl rf_rf hc
  · have k13 : ¬ (t ≤ (f_Mo_ofCrane ((rv M)) c 0)) := by
      have q : ¬ (t ≤ (f_Mo_ofCrane (rv M) c 0)) := h2
      exact q
    refine wgo (g' := (M, 22, [some (.inr (5, 24)), some (.inl (nI c)), some (.inl t), some (.inl (f_Mo_ofCrane (rv M) c 0)), some (.inl (f_Mo_ofCrane (rv M) c 0))], [.inl ((f_Mo_ofCrane (rv M) c 0) + (M 24 3)), .inl t])) [oz 0, oz 0, oz 0, oz 0, oz 0, oz 0] rfl ⟨h2, trivial, trivial, trivial, trivial, trivial, trivial⟩ ?_
    by_cases h14 : ((f_Mo_ofCrane (rv M) c 0) + (M 24 3)) ≤ t
    · have k15 : ((f_Mo_ofCrane ((rv M)) c 0) + (((rv M)) 0 3)) ≤ t := by
        have q : ((f_Mo_ofCrane (rv M) c 0) + ((rv M) 0 3)) ≤ t := h14
        exact q
      refine wgo (g' := (M, 37, [some (.inr (5, 24)), some (.inl (nI c)), some (.inl t), some (.inl (f_Mo_ofCrane (rv M) c 0)), some (.inl ((f_Mo_ofCrane (rv M) c 0) + (M 24 3)))], [])) [oz 1, oz 0, oz 0, oz 0, oz 0, oz 0] rfl ⟨h14, trivial, trivial, trivial, trivial, Nat.le_of_ble_eq_true rfl, trivial⟩ ?_
      have x16 : f_Mo_goes (rv M) c t = f_go37 ((rv M)) c t (f_Mo_ofCrane ((rv M)) c 0) ((f_Mo_ofCrane ((rv M)) c 0) + (((rv M)) 0 3)) := by
        unfold f_Mo_goes
        rw [if_neg k13, if_pos k15]
      rw [x16]
      exact sg_go37 (d := d)  (M := M) (Mz := M) (c := c) (t := t) (a := (f_Mo_ofCrane (rv M) c 0)) (w := ((f_Mo_ofCrane (rv M) c 0) + (M 24 3)))  rfl rf_rf hc
    · have k17 : ¬ (((f_Mo_ofCrane ((rv M)) c 0) + (((rv M)) 0 3)) ≤ t) := by
        have q : ¬ (((f_Mo_ofCrane (rv M) c 0) + ((rv M) 0 3)) ≤ t) := h14
        exact q
      refine wgo (g' := (M, 37, [some (.inr (5, 24)), some (.inl (nI c)), some (.inl t), some (.inl (f_Mo_ofCrane (rv M) c 0)), some (.inl t)], [])) [oz 0, oz 0, oz 0, oz 0] rfl ⟨h14, trivial, trivial, Nat.le_of_ble_eq_true rfl, trivial⟩ ?_
      have x18 : f_Mo_goes (rv M) c t = f_go37 ((rv M)) c t (f_Mo_ofCrane ((rv M)) c 0) t := by
        unfold f_Mo_goes
        rw [if_neg k13, if_neg k17]
      rw [x18]
      exact sg_go37 (d := d)  (M := M) (Mz := M) (c := c) (t := t) (a := (f_Mo_ofCrane (rv M) c 0)) (w := t)  rfl rf_rf hc
def f_Mo_lessToGo (A : mm_M) (c : Nat) : Int32 × mm_M := (if (f_Mo_ofCrane ((f_Mo_setCrane (A) c 3 ((f_Mo_ofCrane (A) c 3) - 1)).2) c 3) ≤ 0 then (if (f_Mo_ofCrane ((f_Mo_setCrane (A) c 3 ((f_Mo_ofCrane (A) c 3) - 1)).2) c 1) = 2 then (if (f_Mo_ofCrane ((f_Mo_setCrane (A) c 3 ((f_Mo_ofCrane (A) c 3) - 1)).2) c 0) = (f_Mo_ofJob ((f_Mo_setCrane (A) c 3 ((f_Mo_ofCrane (A) c 3) - 1)).2) (ix (f_Mo_ofCrane (A) c 2)) 1) then (0, (f_Mo_begins ((f_Mo_setCrane (A) c 3 ((f_Mo_ofCrane (A) c 3) - 1)).2) c 4).2) else (0, (f_Mo_setCrane ((f_Mo_setCrane (A) c 3 ((f_Mo_ofCrane (A) c 3) - 1)).2) c 1 3).2)) else (0, (f_Mo_setCrane ((f_Mo_setCrane ((f_Mo_setJob ((f_Mo_setJob ((f_Mo_setCrane (A) c 3 ((f_Mo_ofCrane (A) c 3) - 1)).2) (ix (f_Mo_ofCrane (A) c 2)) 3 3).2) (ix (f_Mo_ofCrane (A) c 2)) 5 ((((f_Mo_setJob ((f_Mo_setCrane (A) c 3 ((f_Mo_ofCrane (A) c 3) - 1)).2) (ix (f_Mo_ofCrane (A) c 2)) 3 3).2) 3 0) + 1)).2) c 2 ((-1))).2) c 1 0).2)) else (0, (f_Mo_setCrane (A) c 3 ((f_Mo_ofCrane (A) c 3) - 1)).2))
set_option maxRecDepth 20000 in
set_option maxHeartbeats 1000000 in
theorem rs_Mo_lessToGo {d : Nat} {M : mm_M} {c : Nat}  (hc : c < 3) (hj : okx 8 (f_Mo_ofCrane (rv M) c 2)) : RS (d + 3) 56  M [.inr (5, 24), .inl (nI c)] (none) (f_Mo_lessToGo (rv M) c).2 := by
  refine RS_of (Nat.le_of_ble_eq_true rfl) ?_
  show mm_Wp pg_Mo_lessToGo rt_Mo_lessToGo (ct_Sem (d + 2)) (M, 0, [some (.inr (5, 24)), some (.inl (nI c)), none], []) _
  refine wgo (g' := (M, 3, [some (.inr (5, 24)), some (.inl (nI c)), none], [.inl 2, .inl (nI c), .inr (5, 24)])) [oz 0, oz 0, oz 0] rfl ⟨trivial, trivial, trivial, trivial⟩ ?_
  have s1 := sm_Mo_ofCrane (d := d + 1)  (M := M) (c := c) (w := 2) (by omega)
  refine wgo (g' := (M, 13, [some (.inr (5, 24)), some (.inl (nI c)), some (.inl (f_Mo_ofCrane (rv M) c 2))], [.inl 3, .inl (nI c), .inr (5, 24), .inl 3, .inl (nI c), .inr (5, 24)])) [oc (some (f_Mo_ofCrane (rv M) c 2), M), oz 0, oz 0, oz 0, oz 0, oz 0, oz 0, oz 0] rfl ⟨⟨s1, Nat.le_of_ble_eq_true rfl, Nat.le_of_ble_eq_true rfl, ⟨_, rfl⟩⟩, Nat.le_of_ble_eq_true rfl, trivial, trivial, trivial, trivial, trivial, trivial, trivial⟩ ?_
  have s2 := sm_Mo_ofCrane (d := d + 1)  (M := M) (c := c) (w := 3) (by omega)
  refine wgo (g' := (M, 18, [some (.inr (5, 24)), some (.inl (nI c)), some (.inl (f_Mo_ofCrane (rv M) c 2))], [.inl ((f_Mo_ofCrane (rv M) c 3) - 1), .inl 3, .inl (nI c), .inr (5, 24)])) [oc (some (f_Mo_ofCrane (rv M) c 3), M), oz 0, oz 0] rfl ⟨⟨s2, Nat.le_of_ble_eq_true rfl, Nat.le_of_ble_eq_true rfl, ⟨_, rfl⟩⟩, trivial, trivial, trivial⟩ ?_
  obtain ⟨M3, s4, a5, w6⟩ := rs_Mo_setCrane (d := d + 1)  (M := M) (c := c) (w := 3) (x := (f_Mo_ofCrane (rv M) c 3) - 1)  (by omega)
  have a5 : rv M3 = (f_Mo_setCrane ((rv M)) c 3 ((f_Mo_ofCrane ((rv M)) c 3) - 1)).2 := a5.trans (show (f_Mo_setCrane ((rv M)) c 3 ((f_Mo_ofCrane (rv M) c 3) - 1)).2 = _ from by first | rfl | simp only [rv])
  have w6 : rf M M3 := rf_tr rf_rf w6
  refine wgo (g' := (M3, 24, [some (.inr (5, 24)), some (.inl (nI c)), some (.inl (f_Mo_ofCrane (rv M) c 2))], [.inl 3, .inl (nI c), .inr (5, 24)])) [oc (none, M3), oz 0, oz 0, oz 0] rfl ⟨⟨s4, Nat.le_of_ble_eq_true rfl, Nat.le_of_ble_eq_true rfl, ⟨_, rfl⟩⟩, trivial, trivial, trivial, trivial⟩ ?_
  have s7 := sm_Mo_ofCrane (d := d + 1)  (M := M3) (c := c) (w := 3) (by omega)
  refine wgo (g' := (M3, 27, [some (.inr (5, 24)), some (.inl (nI c)), some (.inl (f_Mo_ofCrane (rv M) c 2))], [.inl (f_Mo_ofCrane (rv M3) c 3)])) [oc (some (f_Mo_ofCrane (rv M3) c 3), M3)] rfl ⟨⟨s7, Nat.le_of_ble_eq_true rfl, Nat.le_of_ble_eq_true rfl, ⟨_, rfl⟩⟩, trivial⟩ ?_
  by_cases h8 : (f_Mo_ofCrane (rv M3) c 3) ≤ 0
  · have k9 : (f_Mo_ofCrane ((f_Mo_setCrane ((rv M)) c 3 ((f_Mo_ofCrane ((rv M)) c 3) - 1)).2) c 3) ≤ 0 := by
      have q : (f_Mo_ofCrane (rv M3) c 3) ≤ 0 := h8
      first | exact q | (simp only [a5] at q; exact q)
    refine wgo (g' := (M3, 34, [some (.inr (5, 24)), some (.inl (nI c)), some (.inl (f_Mo_ofCrane (rv M) c 2))], [.inl 1, .inl (nI c), .inr (5, 24)])) [oz 1, oz 0, oz 0, oz 0] rfl ⟨h8, trivial, trivial, trivial, trivial⟩ ?_
    have s10 := sm_Mo_ofCrane (d := d + 1)  (M := M3) (c := c) (w := 1) (by omega)
    refine wgo (g' := (M3, 38, [some (.inr (5, 24)), some (.inl (nI c)), some (.inl (f_Mo_ofCrane (rv M) c 2))], [.inl 2, .inl (f_Mo_ofCrane (rv M3) c 1)])) [oc (some (f_Mo_ofCrane (rv M3) c 1), M3), oz 0] rfl ⟨⟨s10, Nat.le_of_ble_eq_true rfl, Nat.le_of_ble_eq_true rfl, ⟨_, rfl⟩⟩, trivial, trivial⟩ ?_
    by_cases h11 : (f_Mo_ofCrane (rv M3) c 1) = 2
    · have k12 : (f_Mo_ofCrane ((f_Mo_setCrane ((rv M)) c 3 ((f_Mo_ofCrane ((rv M)) c 3) - 1)).2) c 1) = 2 := by
        have q : (f_Mo_ofCrane (rv M3) c 1) = 2 := h11
        first | exact q | (simp only [a5] at q; exact q)
      refine wgo (g' := (M3, 44, [some (.inr (5, 24)), some (.inl (nI c)), some (.inl (f_Mo_ofCrane (rv M) c 2))], [.inl 0, .inl (nI c), .inr (5, 24)])) [oz 0, oz 0, oz 0, oz 0] rfl ⟨(fun z => z h11), trivial, trivial, trivial, trivial⟩ ?_
      have s13 := sm_Mo_ofCrane (d := d + 1)  (M := M3) (c := c) (w := 0) (by omega)
      refine wgo (g' := (M3, 50, [some (.inr (5, 24)), some (.inl (nI c)), some (.inl (f_Mo_ofCrane (rv M) c 2))], [.inl 1, .inl (f_Mo_ofCrane (rv M) c 2), .inr (5, 24), .inl (f_Mo_ofCrane (rv M3) c 0)])) [oc (some (f_Mo_ofCrane (rv M3) c 0), M3), oz 0, oz 0, oz 0] rfl ⟨⟨s13, Nat.le_of_ble_eq_true rfl, Nat.le_of_ble_eq_true rfl, ⟨_, rfl⟩⟩, trivial, trivial, trivial, trivial⟩ ?_
      have s14 := sm_Mo_ofJob (d := d + 1)  (M := M3) (j := ix (f_Mo_ofCrane (rv M) c 2)) (w := 1) (by have q := hj.2; omega)
      rw [← (hj).1] at s14
      refine wgo (g' := (M3, 53, [some (.inr (5, 24)), some (.inl (nI c)), some (.inl (f_Mo_ofCrane (rv M) c 2))], [.inl (f_Mo_ofJob (rv M3) (ix (f_Mo_ofCrane (rv M) c 2)) 1), .inl (f_Mo_ofCrane (rv M3) c 0)])) [oc (some (f_Mo_ofJob (rv M3) (ix (f_Mo_ofCrane (rv M) c 2)) 1), M3)] rfl ⟨⟨s14, Nat.le_of_ble_eq_true rfl, Nat.le_of_ble_eq_true rfl, ⟨_, rfl⟩⟩, trivial⟩ ?_
      by_cases h15 : (f_Mo_ofCrane (rv M3) c 0) = (f_Mo_ofJob (rv M3) (ix (f_Mo_ofCrane (rv M) c 2)) 1)
      · have k16 : (f_Mo_ofCrane ((f_Mo_setCrane ((rv M)) c 3 ((f_Mo_ofCrane ((rv M)) c 3) - 1)).2) c 0) = (f_Mo_ofJob ((f_Mo_setCrane ((rv M)) c 3 ((f_Mo_ofCrane ((rv M)) c 3) - 1)).2) (ix (f_Mo_ofCrane ((rv M)) c 2)) 1) := by
          have q : (f_Mo_ofCrane (rv M3) c 0) = (f_Mo_ofJob (rv M3) (ix (f_Mo_ofCrane (rv M) c 2)) 1) := h15
          first | exact q | (simp only [a5] at q; exact q)
        refine wgo (g' := (M3, 59, [some (.inr (5, 24)), some (.inl (nI c)), some (.inl (f_Mo_ofCrane (rv M) c 2))], [.inl 4, .inl (nI c), .inr (5, 24)])) [oz 0, oz 0, oz 0, oz 0] rfl ⟨(fun z => z h15), trivial, trivial, trivial, trivial⟩ ?_
        obtain ⟨M17, s18, a19, w20⟩ := rs_Mo_begins (d := d)  (M := M3) (c := c) (x := 4)  hc
        have a19 : rv M17 = (f_Mo_begins ((f_Mo_setCrane ((rv M)) c 3 ((f_Mo_ofCrane ((rv M)) c 3) - 1)).2) c 4).2 := a19.trans (show (f_Mo_begins ((rv M3)) c 4).2 = _ from by first | rfl | simp only [a5])
        have w20 : rf M M17 := rf_tr w6 w20
        refine wgo (g' := (M17, 72, [some (.inr (5, 24)), some (.inl (nI c)), some (.inl (f_Mo_ofCrane (rv M) c 2))], [])) [oc (none, M17), oz 0] rfl ⟨⟨s18, Nat.le_of_ble_eq_true rfl, Nat.le_of_ble_eq_true rfl, ⟨_, rfl⟩⟩, trivial, trivial⟩ ?_
        have x21 : f_Mo_lessToGo (rv M) c = (0, (f_Mo_begins ((f_Mo_setCrane ((rv M)) c 3 ((f_Mo_ofCrane ((rv M)) c 3) - 1)).2) c 4).2) := by
          unfold f_Mo_lessToGo
          rw [if_pos k9, if_pos k12, if_pos k16]
        exact wend ⟨rfl, rfl⟩ ⟨rfl, a19.trans (congrArg Prod.snd x21).symm, w20⟩
      · have k22 : ¬ ((f_Mo_ofCrane ((f_Mo_setCrane ((rv M)) c 3 ((f_Mo_ofCrane ((rv M)) c 3) - 1)).2) c 0) = (f_Mo_ofJob ((f_Mo_setCrane ((rv M)) c 3 ((f_Mo_ofCrane ((rv M)) c 3) - 1)).2) (ix (f_Mo_ofCrane ((rv M)) c 2)) 1)) := by
          have q : ¬ ((f_Mo_ofCrane (rv M3) c 0) = (f_Mo_ofJob (rv M3) (ix (f_Mo_ofCrane (rv M) c 2)) 1)) := h15
          first | exact q | (simp only [a5] at q; exact q)
        refine wgo (g' := (M3, 69, [some (.inr (5, 24)), some (.inl (nI c)), some (.inl (f_Mo_ofCrane (rv M) c 2))], [.inl 3, .inl 1, .inl (nI c), .inr (5, 24)])) [oz 1, oz 0, oz 0, oz 0, oz 0] rfl ⟨h15, trivial, trivial, trivial, trivial, trivial⟩ ?_
        obtain ⟨M23, s24, a25, w26⟩ := rs_Mo_setCrane (d := d + 1)  (M := M3) (c := c) (w := 1) (x := 3)  (by omega)
        have a25 : rv M23 = (f_Mo_setCrane ((f_Mo_setCrane ((rv M)) c 3 ((f_Mo_ofCrane ((rv M)) c 3) - 1)).2) c 1 3).2 := a25.trans (show (f_Mo_setCrane ((rv M3)) c 1 3).2 = _ from by first | rfl | simp only [a5])
        have w26 : rf M M23 := rf_tr w6 w26
        refine wgo (g' := (M23, 72, [some (.inr (5, 24)), some (.inl (nI c)), some (.inl (f_Mo_ofCrane (rv M) c 2))], [])) [oc (none, M23)] rfl ⟨⟨s24, Nat.le_of_ble_eq_true rfl, Nat.le_of_ble_eq_true rfl, ⟨_, rfl⟩⟩, trivial⟩ ?_
        have x27 : f_Mo_lessToGo (rv M) c = (0, (f_Mo_setCrane ((f_Mo_setCrane ((rv M)) c 3 ((f_Mo_ofCrane ((rv M)) c 3) - 1)).2) c 1 3).2) := by
          unfold f_Mo_lessToGo
          rw [if_pos k9, if_pos k12, if_neg k22]
        exact wend ⟨rfl, rfl⟩ ⟨rfl, a25.trans (congrArg Prod.snd x27).symm, w26⟩
    · have k28 : ¬ ((f_Mo_ofCrane ((f_Mo_setCrane ((rv M)) c 3 ((f_Mo_ofCrane ((rv M)) c 3) - 1)).2) c 1) = 2) := by
        have q : ¬ ((f_Mo_ofCrane (rv M3) c 1) = 2) := h11
        first | exact q | (simp only [a5] at q; exact q)
      refine wgo (g' := (M3, 77, [some (.inr (5, 24)), some (.inl (nI c)), some (.inl (f_Mo_ofCrane (rv M) c 2))], [.inl 3, .inl 3, .inl (f_Mo_ofCrane (rv M) c 2), .inr (5, 24)])) [oz 1, oz 0, oz 0, oz 0, oz 0] rfl ⟨h11, trivial, trivial, trivial, trivial, trivial⟩ ?_
      obtain ⟨M29, s30, a31, w32⟩ := rs_Mo_setJob (d := d + 1)  (M := M3) (j := ix (f_Mo_ofCrane (rv M) c 2)) (w := 3) (x := 3)  (by have q := hj.2; omega)
      rw [← (hj).1] at s30
      have a31 : rv M29 = (f_Mo_setJob ((f_Mo_setCrane ((rv M)) c 3 ((f_Mo_ofCrane ((rv M)) c 3) - 1)).2) (ix (f_Mo_ofCrane ((rv M)) c 2)) 3 3).2 := a31.trans (show (f_Mo_setJob ((rv M3)) (ix (f_Mo_ofCrane (rv M) c 2)) 3 3).2 = _ from by first | rfl | simp only [a5])
      have w32 : rf M M29 := rf_tr w6 w32
      refine wgo (g' := (M29, 91, [some (.inr (5, 24)), some (.inl (nI c)), some (.inl (f_Mo_ofCrane (rv M) c 2))], [.inl ((M29 27 0) + 1), .inl 5, .inl (f_Mo_ofCrane (rv M) c 2), .inr (5, 24)])) [oc (none, M29), oz 0, oz 0, oz 0, oz 0, oz 0, oz 0, oz 0, oz 0, oz 0] rfl ⟨⟨s30, Nat.le_of_ble_eq_true rfl, Nat.le_of_ble_eq_true rfl, ⟨_, rfl⟩⟩, trivial, trivial, trivial, trivial, trivial, trivial, ⟨rfl, by decide⟩, trivial, trivial, trivial⟩ ?_
      obtain ⟨M33, s34, a35, w36⟩ := rs_Mo_setJob (d := d + 1)  (M := M29) (j := ix (f_Mo_ofCrane (rv M) c 2)) (w := 5) (x := (M29 27 0) + 1)  (by have q := hj.2; omega)
      rw [← (hj).1] at s34
      have a35 : rv M33 = (f_Mo_setJob ((f_Mo_setJob ((f_Mo_setCrane ((rv M)) c 3 ((f_Mo_ofCrane ((rv M)) c 3) - 1)).2) (ix (f_Mo_ofCrane ((rv M)) c 2)) 3 3).2) (ix (f_Mo_ofCrane ((rv M)) c 2)) 5 ((((f_Mo_setJob ((f_Mo_setCrane ((rv M)) c 3 ((f_Mo_ofCrane ((rv M)) c 3) - 1)).2) (ix (f_Mo_ofCrane ((rv M)) c 2)) 3 3).2) 3 0) + 1)).2 := a35.trans (show (f_Mo_setJob ((rv M29)) (ix (f_Mo_ofCrane (rv M) c 2)) 5 (((rv M29) 3 0) + 1)).2 = _ from by first | rfl | simp only [a5, a31])
      have w36 : rf M M33 := rf_tr w32 w36
      refine wgo (g' := (M33, 98, [some (.inr (5, 24)), some (.inl (nI c)), some (.inl (f_Mo_ofCrane (rv M) c 2))], [.inl ((-1)), .inl 2, .inl (nI c), .inr (5, 24)])) [oc (none, M33), oz 0, oz 0, oz 0, oz 0] rfl ⟨⟨s34, Nat.le_of_ble_eq_true rfl, Nat.le_of_ble_eq_true rfl, ⟨_, rfl⟩⟩, trivial, trivial, trivial, trivial, trivial⟩ ?_
      obtain ⟨M37, s38, a39, w40⟩ := rs_Mo_setCrane (d := d + 1)  (M := M33) (c := c) (w := 2) (x := (-1))  (by omega)
      have a39 : rv M37 = (f_Mo_setCrane ((f_Mo_setJob ((f_Mo_setJob ((f_Mo_setCrane ((rv M)) c 3 ((f_Mo_ofCrane ((rv M)) c 3) - 1)).2) (ix (f_Mo_ofCrane ((rv M)) c 2)) 3 3).2) (ix (f_Mo_ofCrane ((rv M)) c 2)) 5 ((((f_Mo_setJob ((f_Mo_setCrane ((rv M)) c 3 ((f_Mo_ofCrane ((rv M)) c 3) - 1)).2) (ix (f_Mo_ofCrane ((rv M)) c 2)) 3 3).2) 3 0) + 1)).2) c 2 ((-1))).2 := a39.trans (show (f_Mo_setCrane ((rv M33)) c 2 ((-1))).2 = _ from by first | rfl | simp only [a5, a31, a35])
      have w40 : rf M M37 := rf_tr w36 w40
      refine wgo (g' := (M37, 105, [some (.inr (5, 24)), some (.inl (nI c)), some (.inl (f_Mo_ofCrane (rv M) c 2))], [.inl 0, .inl 1, .inl (nI c), .inr (5, 24)])) [oc (none, M37), oz 0, oz 0, oz 0, oz 0] rfl ⟨⟨s38, Nat.le_of_ble_eq_true rfl, Nat.le_of_ble_eq_true rfl, ⟨_, rfl⟩⟩, trivial, trivial, trivial, trivial, trivial⟩ ?_
      obtain ⟨M41, s42, a43, w44⟩ := rs_Mo_setCrane (d := d + 1)  (M := M37) (c := c) (w := 1) (x := 0)  (by omega)
      have a43 : rv M41 = (f_Mo_setCrane ((f_Mo_setCrane ((f_Mo_setJob ((f_Mo_setJob ((f_Mo_setCrane ((rv M)) c 3 ((f_Mo_ofCrane ((rv M)) c 3) - 1)).2) (ix (f_Mo_ofCrane ((rv M)) c 2)) 3 3).2) (ix (f_Mo_ofCrane ((rv M)) c 2)) 5 ((((f_Mo_setJob ((f_Mo_setCrane ((rv M)) c 3 ((f_Mo_ofCrane ((rv M)) c 3) - 1)).2) (ix (f_Mo_ofCrane ((rv M)) c 2)) 3 3).2) 3 0) + 1)).2) c 2 ((-1))).2) c 1 0).2 := a43.trans (show (f_Mo_setCrane ((rv M37)) c 1 0).2 = _ from by first | rfl | simp only [a5, a31, a35, a39])
      have w44 : rf M M41 := rf_tr w40 w44
      refine wgo (g' := (M41, 108, [some (.inr (5, 24)), some (.inl (nI c)), some (.inl (f_Mo_ofCrane (rv M) c 2))], [])) [oc (none, M41)] rfl ⟨⟨s42, Nat.le_of_ble_eq_true rfl, Nat.le_of_ble_eq_true rfl, ⟨_, rfl⟩⟩, trivial⟩ ?_
      have x45 : f_Mo_lessToGo (rv M) c = (0, (f_Mo_setCrane ((f_Mo_setCrane ((f_Mo_setJob ((f_Mo_setJob ((f_Mo_setCrane ((rv M)) c 3 ((f_Mo_ofCrane ((rv M)) c 3) - 1)).2) (ix (f_Mo_ofCrane ((rv M)) c 2)) 3 3).2) (ix (f_Mo_ofCrane ((rv M)) c 2)) 5 ((((f_Mo_setJob ((f_Mo_setCrane ((rv M)) c 3 ((f_Mo_ofCrane ((rv M)) c 3) - 1)).2) (ix (f_Mo_ofCrane ((rv M)) c 2)) 3 3).2) 3 0) + 1)).2) c 2 ((-1))).2) c 1 0).2) := by
        unfold f_Mo_lessToGo
        rw [if_pos k9, if_neg k28]
      exact wend ⟨rfl, rfl⟩ ⟨rfl, a43.trans (congrArg Prod.snd x45).symm, w44⟩
  · have k46 : ¬ ((f_Mo_ofCrane ((f_Mo_setCrane ((rv M)) c 3 ((f_Mo_ofCrane ((rv M)) c 3) - 1)).2) c 3) ≤ 0) := by
      have q : ¬ ((f_Mo_ofCrane (rv M3) c 3) ≤ 0) := h8
      first | exact q | (simp only [a5] at q; exact q)
    refine wgo (g' := (M3, 30, [some (.inr (5, 24)), some (.inl (nI c)), some (.inl (f_Mo_ofCrane (rv M) c 2))], [])) [oz 0] rfl ⟨h8, trivial⟩ ?_
    have x47 : f_Mo_lessToGo (rv M) c = (0, (f_Mo_setCrane ((rv M)) c 3 ((f_Mo_ofCrane ((rv M)) c 3) - 1)).2) := by
      unfold f_Mo_lessToGo
      rw [if_neg k46]
    exact wend ⟨rfl, rfl⟩ ⟨rfl, a5.trans (congrArg Prod.snd x47).symm, w6⟩
end
section
/-- whoever has a goal has a job -/
def rgl (X : mm_M) : Prop := ∀ q, q < 3 → ¬ f_Mo_hasGoal X q = 0 → okx 8 (f_Mo_ofCrane X q 2)
def rnn (X : mm_M) (n : Nat) : Prop := X 0 1 = nI n ∧ n ≤ 3
def f_gw87 (A : mm_M) (c : Nat) (a : Int32) (t : Int32) : Int32 × mm_M := (if t ≤ a then (0, A) else (0, (f_Mo_goes (A) c t).2))
set_option maxRecDepth 20000 in
set_option maxHeartbeats 1000000 in
theorem sg_gw87 {d : Nat} {M : mm_M} {A : mm_M} {Mz : mm_M} {c : Nat} {a : Int32} {t : Int32}  (hA : rv Mz = A) (hf : rf M Mz) (hc : c < 3) : mm_Wp pg_Mo_givesWay rt_Mo_givesWay (ct_Sem (d + 2)) (Mz, 87, [some (.inr (5, 24)), some (.inl (nI c)), some (.inl a), some (.inl t)], []) (rQ M (none) (f_gw87 A c a t).2) := by
  refine wgo (g' := (Mz, 89, [some (.inr (5, 24)), some (.inl (nI c)), some (.inl a), some (.inl t)], [.inl a, .inl t])) [oz 0, oz 0] rfl ⟨trivial, trivial, trivial⟩ ?_
  by_cases h1 : t ≤ a
  · have k2 : t ≤ a := by
      have q : t ≤ a := h1
      first | exact q | (simp only [hA] at q; exact q)
    refine wgo (g' := (Mz, 184, [some (.inr (5, 24)), some (.inl (nI c)), some (.inl a), some (.inl t)], [])) [oz 1, oz 0] rfl ⟨h1, trivial, trivial⟩ ?_
    have x3 : f_gw87 A c a t = (0, A) := by
      unfold f_gw87
      rw [if_pos k2]
    exact wend ⟨rfl, rfl⟩ ⟨rfl, hA.trans (congrArg Prod.snd x3).symm, hf⟩
  · have k4 : ¬ (t ≤ a) := by
      have q : ¬ (t ≤ a) := h1
      first | exact q | (simp only [hA] at q; exact q)
    refine wgo (g' := (Mz, 95, [some (.inr (5, 24)), some (.inl (nI c)), some (.inl a), some (.inl t)], [.inl t, .inl (nI c), .inr (5, 24)])) [oz 0, oz 0, oz 0, oz 0] rfl ⟨h1, trivial, trivial, trivial, trivial⟩ ?_
    obtain ⟨M5, s6, a7, w8⟩ := rs_Mo_goes (d := d)  (M := Mz) (c := c) (t := t)  hc
    have a7 : rv M5 = (f_Mo_goes (A) c t).2 := a7.trans (show (f_Mo_goes ((rv Mz)) c t).2 = _ from by first | rfl | simp only [hA])
    have w8 : rf M M5 := rf_tr hf w8
    refine wgo (g' := (M5, 184, [some (.inr (5, 24)), some (.inl (nI c)), some (.inl a), some (.inl t)], [])) [oc (some ((f_Mo_goes ((rv Mz)) c t).1), M5), oz 0, oz 0] rfl ⟨⟨s6, Nat.le_of_ble_eq_true rfl, Nat.le_of_ble_eq_true rfl, ⟨_, rfl⟩⟩, trivial, trivial, trivial⟩ ?_
    have x9 : f_gw87 A c a t = (0, (f_Mo_goes (A) c t).2) := by
      unfold f_gw87
      rw [if_neg k4]
    exact wend ⟨rfl, rfl⟩ ⟨rfl, a7.trans (congrArg Prod.snd x9).symm, w8⟩
def f_gw172 (A : mm_M) (c : Nat) (a : Int32) (t : Int32) : Int32 × mm_M := (if a ≤ t then (0, A) else (0, (f_Mo_goes (A) c t).2))
set_option maxRecDepth 20000 in
set_option maxHeartbeats 1000000 in
theorem sg_gw172 {d : Nat} {M : mm_M} {A : mm_M} {Mz : mm_M} {c : Nat} {a : Int32} {t : Int32}  (hA : rv Mz = A) (hf : rf M Mz) (hc : c < 3) : mm_Wp pg_Mo_givesWay rt_Mo_givesWay (ct_Sem (d + 2)) (Mz, 172, [some (.inr (5, 24)), some (.inl (nI c)), some (.inl a), some (.inl t)], []) (rQ M (none) (f_gw172 A c a t).2) := by
  refine wgo (g' := (Mz, 174, [some (.inr (5, 24)), some (.inl (nI c)), some (.inl a), some (.inl t)], [.inl a, .inl t])) [oz 0, oz 0] rfl ⟨trivial, trivial, trivial⟩ ?_
  by_cases h1 : a ≤ t
  · have k2 : a ≤ t := by
      have q : a ≤ t := h1
      first | exact q | (simp only [hA] at q; exact q)
    refine wgo (g' := (Mz, 184, [some (.inr (5, 24)), some (.inl (nI c)), some (.inl a), some (.inl t)], [])) [oz 1] rfl ⟨h1, trivial⟩ ?_
    have x3 : f_gw172 A c a t = (0, A) := by
      unfold f_gw172
      rw [if_pos k2]
    exact wend ⟨rfl, rfl⟩ ⟨rfl, hA.trans (congrArg Prod.snd x3).symm, hf⟩
  · have k4 : ¬ (a ≤ t) := by
      have q : ¬ (a ≤ t) := h1
      first | exact q | (simp only [hA] at q; exact q)
    refine wgo (g' := (Mz, 180, [some (.inr (5, 24)), some (.inl (nI c)), some (.inl a), some (.inl t)], [.inl t, .inl (nI c), .inr (5, 24)])) [oz 0, oz 0, oz 0, oz 0] rfl ⟨h1, trivial, trivial, trivial, trivial⟩ ?_
    obtain ⟨M5, s6, a7, w8⟩ := rs_Mo_goes (d := d)  (M := Mz) (c := c) (t := t)  hc
    have a7 : rv M5 = (f_Mo_goes (A) c t).2 := a7.trans (show (f_Mo_goes ((rv Mz)) c t).2 = _ from by first | rfl | simp only [hA])
    have w8 : rf M M5 := rf_tr hf w8
    refine wgo (g' := (M5, 184, [some (.inr (5, 24)), some (.inl (nI c)), some (.inl a), some (.inl t)], [])) [oc (some ((f_Mo_goes ((rv Mz)) c t).1), M5), oz 0] rfl ⟨⟨s6, Nat.le_of_ble_eq_true rfl, Nat.le_of_ble_eq_true rfl, ⟨_, rfl⟩⟩, trivial, trivial⟩ ?_
    have x9 : f_gw172 A c a t = (0, (f_Mo_goes (A) c t).2) := by
      unfold f_gw172
      rw [if_neg k4]
    exact wend ⟨rfl, rfl⟩ ⟨rfl, a7.trans (congrArg Prod.snd x9).symm, w8⟩
def f_gw102 (A : mm_M) (c : Nat) (a : Int32) : Int32 × mm_M := (if ((A) 0 1) ≤ ((nI c) + 1) then (0, A) else (if (f_Mo_hasGoal (A) (c + 1)) = 0 then (0, A) else (if (a + ((A) 0 2)) ≤ (f_Mo_goalOf (A) (c + 1)) then (0, A) else (if ((A) 1 c) ≤ ((f_Mo_goalOf (A) (c + 1)) - ((A) 0 2)) then (f_gw172 (A) c a ((f_Mo_goalOf (A) (c + 1)) - ((A) 0 2))) else (f_gw172 (A) c a ((A) 1 c))))))
set_option maxRecDepth 20000 in
set_option maxHeartbeats 1000000 in
theorem sg_gw102 {d : Nat} {M : mm_M} {A : mm_M} {Mz : mm_M} {c : Nat} {a : Int32}  (hA : rv Mz = A) (hf : rf M Mz) {n : Nat} (hc : c < 3) (hn : rnn A n) (hg : rgl A) : mm_Wp pg_Mo_givesWay rt_Mo_givesWay (ct_Sem (d + 2)) (Mz, 102, [some (.inr (5, 24)), some (.inl (nI c)), some (.inl a), none], []) (rQ M (none) (f_gw102 A c a).2) := by
  refine wgo (g' := (Mz, 109, [some (.inr (5, 24)), some (.inl (nI c)), some (.inl a), none], [.inl (Mz 24 1), .inl ((nI c) + 1)])) [oz 0, oz 0, oz 0, oz 0, oz 0] rfl ⟨trivial, trivial, trivial, trivial, trivial, trivial⟩ ?_
  by_cases h1 : (Mz 24 1) ≤ ((nI c) + 1)
  · have k2 : ((A) 0 1) ≤ ((nI c) + 1) := by
      have q : ((rv Mz) 0 1) ≤ ((nI c) + 1) := h1
      first | exact q | (simp only [hA] at q; exact q)
    refine wgo (g' := (Mz, 184, [some (.inr (5, 24)), some (.inl (nI c)), some (.inl a), none], [])) [oz 1] rfl ⟨h1, trivial⟩ ?_
    have x3 : f_gw102 A c a = (0, A) := by
      unfold f_gw102
      rw [if_pos k2]
    exact wend ⟨rfl, rfl⟩ ⟨rfl, hA.trans (congrArg Prod.snd x3).symm, hf⟩
  · have k4 : ¬ (((A) 0 1) ≤ ((nI c) + 1)) := by
      have q : ¬ (((rv Mz) 0 1) ≤ ((nI c) + 1)) := h1
      first | exact q | (simp only [hA] at q; exact q)
    refine wgo (g' := (Mz, 116, [some (.inr (5, 24)), some (.inl (nI c)), some (.inl a), none], [.inl ((nI c) + 1), .inr (5, 24)])) [oz 0, oz 0, oz 0, oz 0, oz 0] rfl ⟨h1, trivial, trivial, trivial, trivial, trivial⟩ ?_
    have s5 := sm_Mo_hasGoal (d := d)  (M := Mz) (c := c + 1) (Nat.lt_of_lt_of_le (nI_lt1 hn.1 hn.2 hc k4) hn.2)
    rw [← (nI_1 c)] at s5
    refine wgo (g' := (Mz, 119, [some (.inr (5, 24)), some (.inl (nI c)), some (.inl a), none], [.inl (f_Mo_hasGoal (rv Mz) (c + 1))])) [oc (some (f_Mo_hasGoal (rv Mz) (c + 1)), Mz)] rfl ⟨⟨s5, Nat.le_of_ble_eq_true rfl, Nat.le_of_ble_eq_true rfl, ⟨_, rfl⟩⟩, trivial⟩ ?_
    by_cases h6 : (f_Mo_hasGoal (rv Mz) (c + 1)) = 0
    · have k7 : (f_Mo_hasGoal (A) (c + 1)) = 0 := by
        have q : (f_Mo_hasGoal (rv Mz) (c + 1)) = 0 := h6
        first | exact q | (simp only [hA] at q; exact q)
      refine wgo (g' := (Mz, 184, [some (.inr (5, 24)), some (.inl (nI c)), some (.inl a), none], [])) [oz 1] rfl ⟨h6, trivial⟩ ?_
      have x8 : f_gw102 A c a = (0, A) := by
        unfold f_gw102
        rw [if_neg k4, if_pos k7]
      exact wend ⟨rfl, rfl⟩ ⟨rfl, hA.trans (congrArg Prod.snd x8).symm, hf⟩
    · have k9 : ¬ ((f_Mo_hasGoal (A) (c + 1)) = 0) := by
        have q : ¬ ((f_Mo_hasGoal (rv Mz) (c + 1)) = 0) := h6
        first | exact q | (simp only [hA] at q; exact q)
      refine wgo (g' := (Mz, 126, [some (.inr (5, 24)), some (.inl (nI c)), some (.inl a), none], [.inl ((nI c) + 1), .inr (5, 24)])) [oz 0, oz 0, oz 0, oz 0, oz 0] rfl ⟨h6, trivial, trivial, trivial, trivial, trivial⟩ ?_
      have s10 := sm_Mo_goalOf (d := d)  (M := Mz) (c := c + 1) (Nat.lt_of_lt_of_le (nI_lt1 hn.1 hn.2 hc k4) hn.2) (by rw [hA]; exact hg _ (Nat.lt_of_lt_of_le (nI_lt1 hn.1 hn.2 hc k4) hn.2) k9)
      rw [← (nI_1 c)] at s10
      refine wgo (g' := (Mz, 135, [some (.inr (5, 24)), some (.inl (nI c)), some (.inl a), none], [.inl (a + (Mz 24 2)), .inl (f_Mo_goalOf (rv Mz) (c + 1))])) [oc (some (f_Mo_goalOf (rv Mz) (c + 1)), Mz), oz 0, oz 0, oz 0, oz 0] rfl ⟨⟨s10, Nat.le_of_ble_eq_true rfl, Nat.le_of_ble_eq_true rfl, ⟨_, rfl⟩⟩, trivial, trivial, trivial, trivial, trivial⟩ ?_
      by_cases h11 : (a + (Mz 24 2)) ≤ (f_Mo_goalOf (rv Mz) (c + 1))
      · have k12 : (a + ((A) 0 2)) ≤ (f_Mo_goalOf (A) (c + 1)) := by
          have q : (a + ((rv Mz) 0 2)) ≤ (f_Mo_goalOf (rv Mz) (c + 1)) := h11
          first | exact q | (simp only [hA] at q; exact q)
        refine wgo (g' := (Mz, 184, [some (.inr (5, 24)), some (.inl (nI c)), some (.inl a), none], [])) [oz 1] rfl ⟨h11, trivial⟩ ?_
        have x13 : f_gw102 A c a = (0, A) := by
          unfold f_gw102
          rw [if_neg k4, if_neg k9, if_pos k12]
        exact wend ⟨rfl, rfl⟩ ⟨rfl, hA.trans (congrArg Prod.snd x13).symm, hf⟩
      · have k14 : ¬ ((a + ((A) 0 2)) ≤ (f_Mo_goalOf (A) (c + 1))) := by
          have q : ¬ ((a + ((rv Mz) 0 2)) ≤ (f_Mo_goalOf (rv Mz) (c + 1))) := h11
          first | exact q | (simp only [hA] at q; exact q)
        refine wgo (g' := (Mz, 142, [some (.inr (5, 24)), some (.inl (nI c)), some (.inl a), none], [.inl ((nI c) + 1), .inr (5, 24)])) [oz 0, oz 0, oz 0, oz 0, oz 0] rfl ⟨h11, trivial, trivial, trivial, trivial, trivial⟩ ?_
        have s15 := sm_Mo_goalOf (d := d)  (M := Mz) (c := c + 1) (Nat.lt_of_lt_of_le (nI_lt1 hn.1 hn.2 hc k4) hn.2) (by rw [hA]; exact hg _ (Nat.lt_of_lt_of_le (nI_lt1 hn.1 hn.2 hc k4) hn.2) k9)
        rw [← (nI_1 c)] at s15
        refine wgo (g' := (Mz, 158, [some (.inr (5, 24)), some (.inl (nI c)), some (.inl a), some (.inl ((f_Mo_goalOf (rv Mz) (c + 1)) - (Mz 24 2)))], [.inl (Mz 25 c), .inl ((f_Mo_goalOf (rv Mz) (c + 1)) - (Mz 24 2))])) [oc (some (f_Mo_goalOf (rv Mz) (c + 1)), Mz), oz 0, oz 0, oz 0, oz 0, oz 0, oz 0, oz 0, oz 0, oz c] rfl ⟨⟨s15, Nat.le_of_ble_eq_true rfl, Nat.le_of_ble_eq_true rfl, ⟨_, rfl⟩⟩, trivial, trivial, trivial, Nat.le_of_ble_eq_true rfl, trivial, trivial, trivial, trivial, ⟨rfl, (show c < 3 from by omega)⟩, trivial⟩ ?_
        by_cases h16 : (Mz 25 c) ≤ ((f_Mo_goalOf (rv Mz) (c + 1)) - (Mz 24 2))
        · have k17 : ((A) 1 c) ≤ ((f_Mo_goalOf (A) (c + 1)) - ((A) 0 2)) := by
            have q : ((rv Mz) 1 c) ≤ ((f_Mo_goalOf (rv Mz) (c + 1)) - ((rv Mz) 0 2)) := h16
            first | exact q | (simp only [hA] at q; exact q)
          refine wgo (g' := (Mz, 172, [some (.inr (5, 24)), some (.inl (nI c)), some (.inl a), some (.inl ((f_Mo_goalOf (rv Mz) (c + 1)) - (Mz 24 2)))], [])) [oz 1, oz 0, oz 0] rfl ⟨h16, trivial, Nat.le_of_ble_eq_true rfl, trivial⟩ ?_
          have x18 : f_gw102 A c a = f_gw172 (A) c a ((f_Mo_goalOf (A) (c + 1)) - ((A) 0 2)) := by
            unfold f_gw102
            rw [if_neg k4, if_neg k9, if_neg k14, if_pos k17]
          rw [x18]
          have q19 := sg_gw172 (d := d)  (M := M) (Mz := Mz) (c := c) (a := a) (t := ((f_Mo_goalOf (rv Mz) (c + 1)) - (Mz 24 2)))  hA hf hc
          have z20 : f_gw172 (A) c a ((f_Mo_goalOf (rv Mz) (c + 1)) - (Mz 24 2)) = f_gw172 (A) c a ((f_Mo_goalOf (A) (c + 1)) - ((A) 0 2)) := (show f_gw172 (A) c a ((f_Mo_goalOf (rv Mz) (c + 1)) - ((rv Mz) 0 2)) = f_gw172 (A) c a ((f_Mo_goalOf (A) (c + 1)) - ((A) 0 2)) from by first | rfl | simp only [hA])
          rw [z20] at q19
          exact q19
        · have k21 : ¬ (((A) 1 c) ≤ ((f_Mo_goalOf (A) (c + 1)) - ((A) 0 2))) := by
            have q : ¬ (((rv Mz) 1 c) ≤ ((f_Mo_goalOf (rv Mz) (c + 1)) - ((rv Mz) 0 2))) := h16
            first | exact q | (simp only [hA] at q; exact q)
          refine wgo (g' := (Mz, 172, [some (.inr (5, 24)), some (.inl (nI c)), some (.inl a), some (.inl (Mz 25 c))], [])) [oz 0, oz 0, oz 0, oz 0, oz c, oz 0, oz 0] rfl ⟨h16, trivial, trivial, trivial, ⟨rfl, (show c < 3 from by omega)⟩, trivial, Nat.le_of_ble_eq_true rfl, trivial⟩ ?_
          have x22 : f_gw102 A c a = f_gw172 (A) c a ((A) 1 c) := by
            unfold f_gw102
            rw [if_neg k4, if_neg k9, if_neg k14, if_neg k21]
          rw [x22]
          have q23 := sg_gw172 (d := d)  (M := M) (Mz := Mz) (c := c) (a := a) (t := (Mz 25 c))  hA hf hc
          have z24 : f_gw172 (A) c a (Mz 25 c) = f_gw172 (A) c a ((A) 1 c) := (show f_gw172 (A) c a ((rv Mz) 1 c) = f_gw172 (A) c a ((A) 1 c) from by first | rfl | simp only [hA])
          rw [z24] at q23
          exact q23
def f_Mo_givesWay (A : mm_M) (c : Nat) : Int32 × mm_M := (if (nI c) ≤ 0 then (f_gw102 ((f_Mo_setCrane (A) c 6 ((f_Mo_ofCrane (A) c 6) + 1)).2) c (f_Mo_ofCrane (A) c 0)) else (if (f_Mo_hasGoal ((f_Mo_setCrane (A) c 6 ((f_Mo_ofCrane (A) c 6) + 1)).2) (c - 1)) = 0 then (f_gw102 ((f_Mo_setCrane (A) c 6 ((f_Mo_ofCrane (A) c 6) + 1)).2) c (f_Mo_ofCrane (A) c 0)) else (if (f_Mo_goalOf ((f_Mo_setCrane (A) c 6 ((f_Mo_ofCrane (A) c 6) + 1)).2) (c - 1)) ≤ ((f_Mo_ofCrane (A) c 0) - (((f_Mo_setCrane (A) c 6 ((f_Mo_ofCrane (A) c 6) + 1)).2) 0 2)) then (f_gw102 ((f_Mo_setCrane (A) c 6 ((f_Mo_ofCrane (A) c 6) + 1)).2) c (f_Mo_ofCrane (A) c 0)) else (if ((f_Mo_goalOf ((f_Mo_setCrane (A) c 6 ((f_Mo_ofCrane (A) c 6) + 1)).2) (c - 1)) + (((f_Mo_setCrane (A) c 6 ((f_Mo_ofCrane (A) c 6) + 1)).2) 0 2)) ≤ (((f_Mo_setCrane (A) c 6 ((f_Mo_ofCrane (A) c 6) + 1)).2) 2 c) then (f_gw87 ((f_Mo_setCrane (A) c 6 ((f_Mo_ofCrane (A) c 6) + 1)).2) c (f_Mo_ofCrane (A) c 0) ((f_Mo_goalOf ((f_Mo_setCrane (A) c 6 ((f_Mo_ofCrane (A) c 6) + 1)).2) (c - 1)) + (((f_Mo_setCrane (A) c 6 ((f_Mo_ofCrane (A) c 6) + 1)).2) 0 2))) else (f_gw87 ((f_Mo_setCrane (A) c 6 ((f_Mo_ofCrane (A) c 6) + 1)).2) c (f_Mo_ofCrane (A) c 0) (((f_Mo_setCrane (A) c 6 ((f_Mo_ofCrane (A) c 6) + 1)).2) 2 c))))))
set_option maxRecDepth 20000 in
set_option maxHeartbeats 1000000 in
theorem rs_Mo_givesWay {d : Nat} {M : mm_M} {c : Nat}  {n : Nat} (hc : c < 3) (hn : rnn ((f_Mo_setCrane (rv M) c 6 (f_Mo_ofCrane (rv M) c 6 + 1)).2) n) (hg : rgl ((f_Mo_setCrane (rv M) c 6 (f_Mo_ofCrane (rv M) c 6 + 1)).2)) : RS (d + 3) 57  M [.inr (5, 24), .inl (nI c)] (none) (f_Mo_givesWay (rv M) c).2 := by
  refine RS_of (Nat.le_of_ble_eq_true rfl) ?_
  show mm_Wp pg_Mo_givesWay rt_Mo_givesWay (ct_Sem (d + 2)) (M, 0, [some (.inr (5, 24)), some (.inl (nI c)), none, none], []) _
  refine wgo (g' := (M, 3, [some (.inr (5, 24)), some (.inl (nI c)), none, none], [.inl 0, .inl (nI c), .inr (5, 24)])) [oz 0, oz 0, oz 0] rfl ⟨trivial, trivial, trivial, trivial⟩ ?_
  have s1 := sm_Mo_ofCrane (d := d + 1)  (M := M) (c := c) (w := 0) (by omega)
  refine wgo (g' := (M, 15, [some (.inr (5, 24)), some (.inl (nI c)), some (.inl (f_Mo_ofCrane (rv M) c 0)), none], [.inl 6, .inl (nI c), .inr (5, 24), .inl 6, .inl (nI c), .inr (5, 24)])) [oc (some (f_Mo_ofCrane (rv M) c 0), M), oz 0, oz 0, oz 0, oz 0, oz 0, oz 0, oz 0] rfl ⟨⟨s1, Nat.le_of_ble_eq_true rfl, Nat.le_of_ble_eq_true rfl, ⟨_, rfl⟩⟩, Nat.le_of_ble_eq_true rfl, trivial, trivial, trivial, trivial, trivial, trivial, trivial⟩ ?_
  have s2 := sm_Mo_ofCrane (d := d + 1)  (M := M) (c := c) (w := 6) (by omega)
  refine wgo (g' := (M, 20, [some (.inr (5, 24)), some (.inl (nI c)), some (.inl (f_Mo_ofCrane (rv M) c 0)), none], [.inl ((f_Mo_ofCrane (rv M) c 6) + 1), .inl 6, .inl (nI c), .inr (5, 24)])) [oc (some (f_Mo_ofCrane (rv M) c 6), M), oz 0, oz 0] rfl ⟨⟨s2, Nat.le_of_ble_eq_true rfl, Nat.le_of_ble_eq_true rfl, ⟨_, rfl⟩⟩, trivial, trivial, trivial⟩ ?_
  obtain ⟨M3, s4, a5, w6⟩ := rs_Mo_setCrane (d := d + 1)  (M := M) (c := c) (w := 6) (x := (f_Mo_ofCrane (rv M) c 6) + 1)  (by omega)
  have a5 : rv M3 = (f_Mo_setCrane ((rv M)) c 6 ((f_Mo_ofCrane ((rv M)) c 6) + 1)).2 := a5.trans (show (f_Mo_setCrane ((rv M)) c 6 ((f_Mo_ofCrane (rv M) c 6) + 1)).2 = _ from by first | rfl | simp only [rv])
  have w6 : rf M M3 := rf_tr rf_rf w6
  refine wgo (g' := (M3, 24, [some (.inr (5, 24)), some (.inl (nI c)), some (.inl (f_Mo_ofCrane (rv M) c 0)), none], [.inl (nI c)])) [oc (none, M3), oz 0] rfl ⟨⟨s4, Nat.le_of_ble_eq_true rfl, Nat.le_of_ble_eq_true rfl, ⟨_, rfl⟩⟩, trivial, trivial⟩ ?_
  by_cases h7 : (nI c) ≤ 0
  · have k8 : (nI c) ≤ 0 := by
      have q : (nI c) ≤ 0 := h7
      first | exact q | (simp only [a5] at q; exact q)
    refine wgo (g' := (M3, 102, [some (.inr (5, 24)), some (.inl (nI c)), some (.inl (f_Mo_ofCrane (rv M) c 0)), none], [])) [oz 1] rfl ⟨h7, trivial⟩ ?_
    have x9 : f_Mo_givesWay (rv M) c = f_gw102 ((f_Mo_setCrane ((rv M)) c 6 ((f_Mo_ofCrane ((rv M)) c 6) + 1)).2) c (f_Mo_ofCrane ((rv M)) c 0) := by
      unfold f_Mo_givesWay
      rw [if_pos k8]
    rw [x9]
    have q10 := sg_gw102 (d := d)  (M := M) (Mz := M3) (c := c) (a := (f_Mo_ofCrane (rv M) c 0))  a5 w6 hc hn hg
    have z11 : f_gw102 ((f_Mo_setCrane ((rv M)) c 6 ((f_Mo_ofCrane ((rv M)) c 6) + 1)).2) c (f_Mo_ofCrane (rv M) c 0) = f_gw102 ((f_Mo_setCrane ((rv M)) c 6 ((f_Mo_ofCrane ((rv M)) c 6) + 1)).2) c (f_Mo_ofCrane ((rv M)) c 0) := (show f_gw102 ((f_Mo_setCrane ((rv M)) c 6 ((f_Mo_ofCrane ((rv M)) c 6) + 1)).2) c (f_Mo_ofCrane (rv M) c 0) = f_gw102 ((f_Mo_setCrane ((rv M)) c 6 ((f_Mo_ofCrane ((rv M)) c 6) + 1)).2) c (f_Mo_ofCrane ((rv M)) c 0) from by first | rfl | simp only [a5])
    rw [z11] at q10
    exact q10
  · have k12 : ¬ ((nI c) ≤ 0) := by
      have q : ¬ ((nI c) ≤ 0) := h7
      first | exact q | (simp only [a5] at q; exact q)
    refine wgo (g' := (M3, 31, [some (.inr (5, 24)), some (.inl (nI c)), some (.inl (f_Mo_ofCrane (rv M) c 0)), none], [.inl ((nI c) - 1), .inr (5, 24)])) [oz 0, oz 0, oz 0, oz 0, oz 0] rfl ⟨h7, trivial, trivial, trivial, trivial, trivial⟩ ?_
    have s13 := sm_Mo_hasGoal (d := d)  (M := M3) (c := c - 1) (by omega)
    rw [← (nI_m1 (nI_gt0 k12))] at s13
    refine wgo (g' := (M3, 34, [some (.inr (5, 24)), some (.inl (nI c)), some (.inl (f_Mo_ofCrane (rv M) c 0)), none], [.inl (f_Mo_hasGoal (rv M3) (c - 1))])) [oc (some (f_Mo_hasGoal (rv M3) (c - 1)), M3)] rfl ⟨⟨s13, Nat.le_of_ble_eq_true rfl, Nat.le_of_ble_eq_true rfl, ⟨_, rfl⟩⟩, trivial⟩ ?_
    by_cases h14 : (f_Mo_hasGoal (rv M3) (c - 1)) = 0
    · have k15 : (f_Mo_hasGoal ((f_Mo_setCrane ((rv M)) c 6 ((f_Mo_ofCrane ((rv M)) c 6) + 1)).2) (c - 1)) = 0 := by
        have q : (f_Mo_hasGoal (rv M3) (c - 1)) = 0 := h14
        first | exact q | (simp only [a5] at q; exact q)
      refine wgo (g' := (M3, 102, [some (.inr (5, 24)), some (.inl (nI c)), some (.inl (f_Mo_ofCrane (rv M) c 0)), none], [])) [oz 1] rfl ⟨h14, trivial⟩ ?_
      have x16 : f_Mo_givesWay (rv M) c = f_gw102 ((f_Mo_setCrane ((rv M)) c 6 ((f_Mo_ofCrane ((rv M)) c 6) + 1)).2) c (f_Mo_ofCrane ((rv M)) c 0) := by
        unfold f_Mo_givesWay
        rw [if_neg k12, if_pos k15]
      rw [x16]
      have q17 := sg_gw102 (d := d)  (M := M) (Mz := M3) (c := c) (a := (f_Mo_ofCrane (rv M) c 0))  a5 w6 hc hn hg
      have z18 : f_gw102 ((f_Mo_setCrane ((rv M)) c 6 ((f_Mo_ofCrane ((rv M)) c 6) + 1)).2) c (f_Mo_ofCrane (rv M) c 0) = f_gw102 ((f_Mo_setCrane ((rv M)) c 6 ((f_Mo_ofCrane ((rv M)) c 6) + 1)).2) c (f_Mo_ofCrane ((rv M)) c 0) := (show f_gw102 ((f_Mo_setCrane ((rv M)) c 6 ((f_Mo_ofCrane ((rv M)) c 6) + 1)).2) c (f_Mo_ofCrane (rv M) c 0) = f_gw102 ((f_Mo_setCrane ((rv M)) c 6 ((f_Mo_ofCrane ((rv M)) c 6) + 1)).2) c (f_Mo_ofCrane ((rv M)) c 0) from by first | rfl | simp only [a5])
      rw [z18] at q17
      exact q17
    · have k19 : ¬ ((f_Mo_hasGoal ((f_Mo_setCrane ((rv M)) c 6 ((f_Mo_ofCrane ((rv M)) c 6) + 1)).2) (c - 1)) = 0) := by
        have q : ¬ ((f_Mo_hasGoal (rv M3) (c - 1)) = 0) := h14
        first | exact q | (simp only [a5] at q; exact q)
      refine wgo (g' := (M3, 41, [some (.inr (5, 24)), some (.inl (nI c)), some (.inl (f_Mo_ofCrane (rv M) c 0)), none], [.inl ((nI c) - 1), .inr (5, 24)])) [oz 0, oz 0, oz 0, oz 0, oz 0] rfl ⟨h14, trivial, trivial, trivial, trivial, trivial⟩ ?_
      have s20 := sm_Mo_goalOf (d := d)  (M := M3) (c := c - 1) (by omega) (by rw [a5]; exact hg _ (by omega) k19)
      rw [← (nI_m1 (nI_gt0 k12))] at s20
      refine wgo (g' := (M3, 50, [some (.inr (5, 24)), some (.inl (nI c)), some (.inl (f_Mo_ofCrane (rv M) c 0)), none], [.inl ((f_Mo_ofCrane (rv M) c 0) - (M3 24 2)), .inl (f_Mo_goalOf (rv M3) (c - 1))])) [oc (some (f_Mo_goalOf (rv M3) (c - 1)), M3), oz 0, oz 0, oz 0, oz 0] rfl ⟨⟨s20, Nat.le_of_ble_eq_true rfl, Nat.le_of_ble_eq_true rfl, ⟨_, rfl⟩⟩, trivial, trivial, trivial, trivial, trivial⟩ ?_
      by_cases h21 : (f_Mo_goalOf (rv M3) (c - 1)) ≤ ((f_Mo_ofCrane (rv M) c 0) - (M3 24 2))
      · have k22 : (f_Mo_goalOf ((f_Mo_setCrane ((rv M)) c 6 ((f_Mo_ofCrane ((rv M)) c 6) + 1)).2) (c - 1)) ≤ ((f_Mo_ofCrane ((rv M)) c 0) - (((f_Mo_setCrane ((rv M)) c 6 ((f_Mo_ofCrane ((rv M)) c 6) + 1)).2) 0 2)) := by
          have q : (f_Mo_goalOf (rv M3) (c - 1)) ≤ ((f_Mo_ofCrane (rv M) c 0) - ((rv M3) 0 2)) := h21
          first | exact q | (simp only [a5] at q; exact q)
        refine wgo (g' := (M3, 102, [some (.inr (5, 24)), some (.inl (nI c)), some (.inl (f_Mo_ofCrane (rv M) c 0)), none], [])) [oz 1] rfl ⟨h21, trivial⟩ ?_
        have x23 : f_Mo_givesWay (rv M) c = f_gw102 ((f_Mo_setCrane ((rv M)) c 6 ((f_Mo_ofCrane ((rv M)) c 6) + 1)).2) c (f_Mo_ofCrane ((rv M)) c 0) := by
          unfold f_Mo_givesWay
          rw [if_neg k12, if_neg k19, if_pos k22]
        rw [x23]
        have q24 := sg_gw102 (d := d)  (M := M) (Mz := M3) (c := c) (a := (f_Mo_ofCrane (rv M) c 0))  a5 w6 hc hn hg
        have z25 : f_gw102 ((f_Mo_setCrane ((rv M)) c 6 ((f_Mo_ofCrane ((rv M)) c 6) + 1)).2) c (f_Mo_ofCrane (rv M) c 0) = f_gw102 ((f_Mo_setCrane ((rv M)) c 6 ((f_Mo_ofCrane ((rv M)) c 6) + 1)).2) c (f_Mo_ofCrane ((rv M)) c 0) := (show f_gw102 ((f_Mo_setCrane ((rv M)) c 6 ((f_Mo_ofCrane ((rv M)) c 6) + 1)).2) c (f_Mo_ofCrane (rv M) c 0) = f_gw102 ((f_Mo_setCrane ((rv M)) c 6 ((f_Mo_ofCrane ((rv M)) c 6) + 1)).2) c (f_Mo_ofCrane ((rv M)) c 0) from by first | rfl | simp only [a5])
        rw [z25] at q24
        exact q24
      · have k26 : ¬ ((f_Mo_goalOf ((f_Mo_setCrane ((rv M)) c 6 ((f_Mo_ofCrane ((rv M)) c 6) + 1)).2) (c - 1)) ≤ ((f_Mo_ofCrane ((rv M)) c 0) - (((f_Mo_setCrane ((rv M)) c 6 ((f_Mo_ofCrane ((rv M)) c 6) + 1)).2) 0 2))) := by
          have q : ¬ ((f_Mo_goalOf (rv M3) (c - 1)) ≤ ((f_Mo_ofCrane (rv M) c 0) - ((rv M3) 0 2))) := h21
          first | exact q | (simp only [a5] at q; exact q)
        refine wgo (g' := (M3, 57, [some (.inr (5, 24)), some (.inl (nI c)), some (.inl (f_Mo_ofCrane (rv M) c 0)), none], [.inl ((nI c) - 1), .inr (5, 24)])) [oz 0, oz 0, oz 0, oz 0, oz 0] rfl ⟨h21, trivial, trivial, trivial, trivial, trivial⟩ ?_
        have s27 := sm_Mo_goalOf (d := d)  (M := M3) (c := c - 1) (by omega) (by rw [a5]; exact hg _ (by omega) k19)
        rw [← (nI_m1 (nI_gt0 k12))] at s27
        refine wgo (g' := (M3, 73, [some (.inr (5, 24)), some (.inl (nI c)), some (.inl (f_Mo_ofCrane (rv M) c 0)), some (.inl ((f_Mo_goalOf (rv M3) (c - 1)) + (M3 24 2)))], [.inl (M3 26 c), .inl ((f_Mo_goalOf (rv M3) (c - 1)) + (M3 24 2))])) [oc (some (f_Mo_goalOf (rv M3) (c - 1)), M3), oz 0, oz 0, oz 0, oz 0, oz 0, oz 0, oz 0, oz 0, oz c] rfl ⟨⟨s27, Nat.le_of_ble_eq_true rfl, Nat.le_of_ble_eq_true rfl, ⟨_, rfl⟩⟩, trivial, trivial, trivial, Nat.le_of_ble_eq_true rfl, trivial, trivial, trivial, trivial, ⟨rfl, (show c < 3 from by omega)⟩, trivial⟩ ?_
        by_cases h28 : ((f_Mo_goalOf (rv M3) (c - 1)) + (M3 24 2)) ≤ (M3 26 c)
        · have k29 : ((f_Mo_goalOf ((f_Mo_setCrane ((rv M)) c 6 ((f_Mo_ofCrane ((rv M)) c 6) + 1)).2) (c - 1)) + (((f_Mo_setCrane ((rv M)) c 6 ((f_Mo_ofCrane ((rv M)) c 6) + 1)).2) 0 2)) ≤ (((f_Mo_setCrane ((rv M)) c 6 ((f_Mo_ofCrane ((rv M)) c 6) + 1)).2) 2 c) := by
            have q : ((f_Mo_goalOf (rv M3) (c - 1)) + ((rv M3) 0 2)) ≤ ((rv M3) 2 c) := h28
            first | exact q | (simp only [a5] at q; exact q)
          refine wgo (g' := (M3, 87, [some (.inr (5, 24)), some (.inl (nI c)), some (.inl (f_Mo_ofCrane (rv M) c 0)), some (.inl ((f_Mo_goalOf (rv M3) (c - 1)) + (M3 24 2)))], [])) [oz 1, oz 0, oz 0] rfl ⟨h28, trivial, Nat.le_of_ble_eq_true rfl, trivial⟩ ?_
          have x30 : f_Mo_givesWay (rv M) c = f_gw87 ((f_Mo_setCrane ((rv M)) c 6 ((f_Mo_ofCrane ((rv M)) c 6) + 1)).2) c (f_Mo_ofCrane ((rv M)) c 0) ((f_Mo_goalOf ((f_Mo_setCrane ((rv M)) c 6 ((f_Mo_ofCrane ((rv M)) c 6) + 1)).2) (c - 1)) + (((f_Mo_setCrane ((rv M)) c 6 ((f_Mo_ofCrane ((rv M)) c 6) + 1)).2) 0 2)) := by
            unfold f_Mo_givesWay
            rw [if_neg k12, if_neg k19, if_neg k26, if_pos k29]
          rw [x30]
          have q31 := sg_gw87 (d := d)  (M := M) (Mz := M3) (c := c) (a := (f_Mo_ofCrane (rv M) c 0)) (t := ((f_Mo_goalOf (rv M3) (c - 1)) + (M3 24 2)))  a5 w6 hc
          have z32 : f_gw87 ((f_Mo_setCrane ((rv M)) c 6 ((f_Mo_ofCrane ((rv M)) c 6) + 1)).2) c (f_Mo_ofCrane (rv M) c 0) ((f_Mo_goalOf (rv M3) (c - 1)) + (M3 24 2)) = f_gw87 ((f_Mo_setCrane ((rv M)) c 6 ((f_Mo_ofCrane ((rv M)) c 6) + 1)).2) c (f_Mo_ofCrane ((rv M)) c 0) ((f_Mo_goalOf ((f_Mo_setCrane ((rv M)) c 6 ((f_Mo_ofCrane ((rv M)) c 6) + 1)).2) (c - 1)) + (((f_Mo_setCrane ((rv M)) c 6 ((f_Mo_ofCrane ((rv M)) c 6) + 1)).2) 0 2)) := (show f_gw87 ((f_Mo_setCrane ((rv M)) c 6 ((f_Mo_ofCrane ((rv M)) c 6) + 1)).2) c (f_Mo_ofCrane (rv M) c 0) ((f_Mo_goalOf (rv M3) (c - 1)) + ((rv M3) 0 2)) = f_gw87 ((f_Mo_setCrane ((rv M)) c 6 ((f_Mo_ofCrane ((rv M)) c 6) + 1)).2) c (f_Mo_ofCrane ((rv M)) c 0) ((f_Mo_goalOf ((f_Mo_setCrane ((rv M)) c 6 ((f_Mo_ofCrane ((rv M)) c 6) + 1)).2) (c - 1)) + (((f_Mo_setCrane ((rv M)) c 6 ((f_Mo_ofCrane ((rv M)) c 6) + 1)).2) 0 2)) from by first | rfl | simp only [a5])
          rw [z32] at q31
          exact q31
        · have k33 : ¬ (((f_Mo_goalOf ((f_Mo_setCrane ((rv M)) c 6 ((f_Mo_ofCrane ((rv M)) c 6) + 1)).2) (c - 1)) + (((f_Mo_setCrane ((rv M)) c 6 ((f_Mo_ofCrane ((rv M)) c 6) + 1)).2) 0 2)) ≤ (((f_Mo_setCrane ((rv M)) c 6 ((f_Mo_ofCrane ((rv M)) c 6) + 1)).2) 2 c)) := by
            have q : ¬ (((f_Mo_goalOf (rv M3) (c - 1)) + ((rv M3) 0 2)) ≤ ((rv M3) 2 c)) := h28
            first | exact q | (simp only [a5] at q; exact q)
          refine wgo (g' := (M3, 87, [some (.inr (5, 24)), some (.inl (nI c)), some (.inl (f_Mo_ofCrane (rv M) c 0)), some (.inl (M3 26 c))], [])) [oz 0, oz 0, oz 0, oz 0, oz c, oz 0, oz 0] rfl ⟨h28, trivial, trivial, trivial, ⟨rfl, (show c < 3 from by omega)⟩, trivial, Nat.le_of_ble_eq_true rfl, trivial⟩ ?_
          have x34 : f_Mo_givesWay (rv M) c = f_gw87 ((f_Mo_setCrane ((rv M)) c 6 ((f_Mo_ofCrane ((rv M)) c 6) + 1)).2) c (f_Mo_ofCrane ((rv M)) c 0) (((f_Mo_setCrane ((rv M)) c 6 ((f_Mo_ofCrane ((rv M)) c 6) + 1)).2) 2 c) := by
            unfold f_Mo_givesWay
            rw [if_neg k12, if_neg k19, if_neg k26, if_neg k33]
          rw [x34]
          have q35 := sg_gw87 (d := d)  (M := M) (Mz := M3) (c := c) (a := (f_Mo_ofCrane (rv M) c 0)) (t := (M3 26 c))  a5 w6 hc
          have z36 : f_gw87 ((f_Mo_setCrane ((rv M)) c 6 ((f_Mo_ofCrane ((rv M)) c 6) + 1)).2) c (f_Mo_ofCrane (rv M) c 0) (M3 26 c) = f_gw87 ((f_Mo_setCrane ((rv M)) c 6 ((f_Mo_ofCrane ((rv M)) c 6) + 1)).2) c (f_Mo_ofCrane ((rv M)) c 0) (((f_Mo_setCrane ((rv M)) c 6 ((f_Mo_ofCrane ((rv M)) c 6) + 1)).2) 2 c) := (show f_gw87 ((f_Mo_setCrane ((rv M)) c 6 ((f_Mo_ofCrane ((rv M)) c 6) + 1)).2) c (f_Mo_ofCrane (rv M) c 0) ((rv M3) 2 c) = f_gw87 ((f_Mo_setCrane ((rv M)) c 6 ((f_Mo_ofCrane ((rv M)) c 6) + 1)).2) c (f_Mo_ofCrane ((rv M)) c 0) (((f_Mo_setCrane ((rv M)) c 6 ((f_Mo_ofCrane ((rv M)) c 6) + 1)).2) 2 c) from by first | rfl | simp only [a5])
          rw [z36] at q35
          exact q35
def f_se120 (A : mm_M) (c : Nat) (w : Int32) : Int32 × mm_M := (if w = 0 then (if w = 0 then (0, (f_Mo_setCrane (A) c 5 ((f_Mo_ofCrane (A) c 5) + 1)).2) else (0, (f_Mo_setCrane (A) c 5 ((f_Mo_ofCrane (A) c 4) + 1)).2)) else (if w = 0 then (0, (f_Mo_setCrane (A) c 4 ((f_Mo_ofCrane (A) c 5) + 1)).2) else (0, (f_Mo_setCrane (A) c 4 ((f_Mo_ofCrane (A) c 4) + 1)).2)))
set_option maxRecDepth 20000 in
set_option maxHeartbeats 1000000 in
theorem sg_se120 {d : Nat} {M : mm_M} {A : mm_M} {Mz : mm_M} {c : Nat} {w : Int32}  (hA : rv Mz = A) (hf : rf M Mz) (hc : c < 3) : mm_Wp pg_Mo_second rt_Mo_second (ct_Sem (d + 1)) (Mz, 120, [some (.inr (5, 24)), some (.inl (nI c)), some (.inl w)], []) (rQ M (none) (f_se120 A c w).2) := by
  refine wgo (g' := (Mz, 123, [some (.inr (5, 24)), some (.inl (nI c)), some (.inl w)], [.inl w, .inl (nI c), .inr (5, 24)])) [oz 0, oz 0, oz 0] rfl ⟨trivial, trivial, trivial, trivial⟩ ?_
  by_cases h1 : w = 0
  · have k2 : w = 0 := by
      have q : w = 0 := h1
      first | exact q | (simp only [hA] at q; exact q)
    refine wgo (g' := (Mz, 134, [some (.inr (5, 24)), some (.inl (nI c)), some (.inl w)], [.inl w, .inl (nI c), .inr (5, 24), .inl 5, .inl (nI c), .inr (5, 24)])) [oz 1, oz 0, oz 0, oz 0, oz 0] rfl ⟨h1, trivial, trivial, trivial, trivial, trivial⟩ ?_
    by_cases h3 : w = 0
    · have k4 : w = 0 := by
        have q : w = 0 := h3
        first | exact q | (simp only [hA] at q; exact q)
      refine wgo (g' := (Mz, 142, [some (.inr (5, 24)), some (.inl (nI c)), some (.inl w)], [.inl 5, .inl (nI c), .inr (5, 24), .inl 5, .inl (nI c), .inr (5, 24)])) [oz 1, oz 0] rfl ⟨h3, trivial, trivial⟩ ?_
      have s5 := sm_Mo_ofCrane (d := d)  (M := Mz) (c := c) (w := 5) (by omega)
      refine wgo (g' := (Mz, 147, [some (.inr (5, 24)), some (.inl (nI c)), some (.inl w)], [.inl ((f_Mo_ofCrane (rv Mz) c 5) + 1), .inl 5, .inl (nI c), .inr (5, 24)])) [oc (some (f_Mo_ofCrane (rv Mz) c 5), Mz), oz 0, oz 0] rfl ⟨⟨s5, Nat.le_of_ble_eq_true rfl, Nat.le_of_ble_eq_true rfl, ⟨_, rfl⟩⟩, trivial, trivial, trivial⟩ ?_
      obtain ⟨M6, s7, a8, w9⟩ := rs_Mo_setCrane (d := d)  (M := Mz) (c := c) (w := 5) (x := (f_Mo_ofCrane (rv Mz) c 5) + 1)  (by omega)
      have a8 : rv M6 = (f_Mo_setCrane (A) c 5 ((f_Mo_ofCrane (A) c 5) + 1)).2 := a8.trans (show (f_Mo_setCrane ((rv Mz)) c 5 ((f_Mo_ofCrane (rv Mz) c 5) + 1)).2 = _ from by first | rfl | simp only [hA])
      have w9 : rf M M6 := rf_tr hf w9
      refine wgo (g' := (M6, 150, [some (.inr (5, 24)), some (.inl (nI c)), some (.inl w)], [])) [oc (none, M6)] rfl ⟨⟨s7, Nat.le_of_ble_eq_true rfl, Nat.le_of_ble_eq_true rfl, ⟨_, rfl⟩⟩, trivial⟩ ?_
      have x10 : f_se120 A c w = (0, (f_Mo_setCrane (A) c 5 ((f_Mo_ofCrane (A) c 5) + 1)).2) := by
        unfold f_se120
        rw [if_pos k2, if_pos k4]
      exact wend ⟨rfl, rfl⟩ ⟨rfl, a8.trans (congrArg Prod.snd x10).symm, w9⟩
    · have k11 : ¬ (w = 0) := by
        have q : ¬ (w = 0) := h3
        first | exact q | (simp only [hA] at q; exact q)
      refine wgo (g' := (Mz, 142, [some (.inr (5, 24)), some (.inl (nI c)), some (.inl w)], [.inl 4, .inl (nI c), .inr (5, 24), .inl 5, .inl (nI c), .inr (5, 24)])) [oz 0, oz 0, oz 0] rfl ⟨h3, trivial, trivial, trivial⟩ ?_
      have s12 := sm_Mo_ofCrane (d := d)  (M := Mz) (c := c) (w := 4) (by omega)
      refine wgo (g' := (Mz, 147, [some (.inr (5, 24)), some (.inl (nI c)), some (.inl w)], [.inl ((f_Mo_ofCrane (rv Mz) c 4) + 1), .inl 5, .inl (nI c), .inr (5, 24)])) [oc (some (f_Mo_ofCrane (rv Mz) c 4), Mz), oz 0, oz 0] rfl ⟨⟨s12, Nat.le_of_ble_eq_true rfl, Nat.le_of_ble_eq_true rfl, ⟨_, rfl⟩⟩, trivial, trivial, trivial⟩ ?_
      obtain ⟨M13, s14, a15, w16⟩ := rs_Mo_setCrane (d := d)  (M := Mz) (c := c) (w := 5) (x := (f_Mo_ofCrane (rv Mz) c 4) + 1)  (by omega)
      have a15 : rv M13 = (f_Mo_setCrane (A) c 5 ((f_Mo_ofCrane (A) c 4) + 1)).2 := a15.trans (show (f_Mo_setCrane ((rv Mz)) c 5 ((f_Mo_ofCrane (rv Mz) c 4) + 1)).2 = _ from by first | rfl | simp only [hA])
      have w16 : rf M M13 := rf_tr hf w16
      refine wgo (g' := (M13, 150, [some (.inr (5, 24)), some (.inl (nI c)), some (.inl w)], [])) [oc (none, M13)] rfl ⟨⟨s14, Nat.le_of_ble_eq_true rfl, Nat.le_of_ble_eq_true rfl, ⟨_, rfl⟩⟩, trivial⟩ ?_
      have x17 : f_se120 A c w = (0, (f_Mo_setCrane (A) c 5 ((f_Mo_ofCrane (A) c 4) + 1)).2) := by
        unfold f_se120
        rw [if_pos k2, if_neg k11]
      exact wend ⟨rfl, rfl⟩ ⟨rfl, a15.trans (congrArg Prod.snd x17).symm, w16⟩
  · have k18 : ¬ (w = 0) := by
      have q : ¬ (w = 0) := h1
      first | exact q | (simp only [hA] at q; exact q)
    refine wgo (g' := (Mz, 134, [some (.inr (5, 24)), some (.inl (nI c)), some (.inl w)], [.inl w, .inl (nI c), .inr (5, 24), .inl 4, .inl (nI c), .inr (5, 24)])) [oz 0, oz 0, oz 0, oz 0, oz 0, oz 0] rfl ⟨h1, trivial, trivial, trivial, trivial, trivial, trivial⟩ ?_
    by_cases h19 : w = 0
    · have k20 : w = 0 := by
        have q : w = 0 := h19
        first | exact q | (simp only [hA] at q; exact q)
      refine wgo (g' := (Mz, 142, [some (.inr (5, 24)), some (.inl (nI c)), some (.inl w)], [.inl 5, .inl (nI c), .inr (5, 24), .inl 4, .inl (nI c), .inr (5, 24)])) [oz 1, oz 0] rfl ⟨h19, trivial, trivial⟩ ?_
      have s21 := sm_Mo_ofCrane (d := d)  (M := Mz) (c := c) (w := 5) (by omega)
      refine wgo (g' := (Mz, 147, [some (.inr (5, 24)), some (.inl (nI c)), some (.inl w)], [.inl ((f_Mo_ofCrane (rv Mz) c 5) + 1), .inl 4, .inl (nI c), .inr (5, 24)])) [oc (some (f_Mo_ofCrane (rv Mz) c 5), Mz), oz 0, oz 0] rfl ⟨⟨s21, Nat.le_of_ble_eq_true rfl, Nat.le_of_ble_eq_true rfl, ⟨_, rfl⟩⟩, trivial, trivial, trivial⟩ ?_
      obtain ⟨M22, s23, a24, w25⟩ := rs_Mo_setCrane (d := d)  (M := Mz) (c := c) (w := 4) (x := (f_Mo_ofCrane (rv Mz) c 5) + 1)  (by omega)
      have a24 : rv M22 = (f_Mo_setCrane (A) c 4 ((f_Mo_ofCrane (A) c 5) + 1)).2 := a24.trans (show (f_Mo_setCrane ((rv Mz)) c 4 ((f_Mo_ofCrane (rv Mz) c 5) + 1)).2 = _ from by first | rfl | simp only [hA])
      have w25 : rf M M22 := rf_tr hf w25
      refine wgo (g' := (M22, 150, [some (.inr (5, 24)), some (.inl (nI c)), some (.inl w)], [])) [oc (none, M22)] rfl ⟨⟨s23, Nat.le_of_ble_eq_true rfl, Nat.le_of_ble_eq_true rfl, ⟨_, rfl⟩⟩, trivial⟩ ?_
      have x26 : f_se120 A c w = (0, (f_Mo_setCrane (A) c 4 ((f_Mo_ofCrane (A) c 5) + 1)).2) := by
        unfold f_se120
        rw [if_neg k18, if_pos k20]
      exact wend ⟨rfl, rfl⟩ ⟨rfl, a24.trans (congrArg Prod.snd x26).symm, w25⟩
    · have k27 : ¬ (w = 0) := by
        have q : ¬ (w = 0) := h19
        first | exact q | (simp only [hA] at q; exact q)
      refine wgo (g' := (Mz, 142, [some (.inr (5, 24)), some (.inl (nI c)), some (.inl w)], [.inl 4, .inl (nI c), .inr (5, 24), .inl 4, .inl (nI c), .inr (5, 24)])) [oz 0, oz 0, oz 0] rfl ⟨h19, trivial, trivial, trivial⟩ ?_
      have s28 := sm_Mo_ofCrane (d := d)  (M := Mz) (c := c) (w := 4) (by omega)
      refine wgo (g' := (Mz, 147, [some (.inr (5, 24)), some (.inl (nI c)), some (.inl w)], [.inl ((f_Mo_ofCrane (rv Mz) c 4) + 1), .inl 4, .inl (nI c), .inr (5, 24)])) [oc (some (f_Mo_ofCrane (rv Mz) c 4), Mz), oz 0, oz 0] rfl ⟨⟨s28, Nat.le_of_ble_eq_true rfl, Nat.le_of_ble_eq_true rfl, ⟨_, rfl⟩⟩, trivial, trivial, trivial⟩ ?_
      obtain ⟨M29, s30, a31, w32⟩ := rs_Mo_setCrane (d := d)  (M := Mz) (c := c) (w := 4) (x := (f_Mo_ofCrane (rv Mz) c 4) + 1)  (by omega)
      have a31 : rv M29 = (f_Mo_setCrane (A) c 4 ((f_Mo_ofCrane (A) c 4) + 1)).2 := a31.trans (show (f_Mo_setCrane ((rv Mz)) c 4 ((f_Mo_ofCrane (rv Mz) c 4) + 1)).2 = _ from by first | rfl | simp only [hA])
      have w32 : rf M M29 := rf_tr hf w32
      refine wgo (g' := (M29, 150, [some (.inr (5, 24)), some (.inl (nI c)), some (.inl w)], [])) [oc (none, M29)] rfl ⟨⟨s30, Nat.le_of_ble_eq_true rfl, Nat.le_of_ble_eq_true rfl, ⟨_, rfl⟩⟩, trivial⟩ ?_
      have x33 : f_se120 A c w = (0, (f_Mo_setCrane (A) c 4 ((f_Mo_ofCrane (A) c 4) + 1)).2) := by
        unfold f_se120
        rw [if_neg k18, if_neg k27]
      exact wend ⟨rfl, rfl⟩ ⟨rfl, a31.trans (congrArg Prod.snd x33).symm, w32⟩
/-- what the reference's second of crane c needs, the first job taken -/
def rtwo (A : mm_M) (n c : Nat) : Prop := rnn ((f_Mo_setCrane A c 6 (f_Mo_ofCrane A c 6 + 1)).2) n ∧ rgl ((f_Mo_setCrane A c 6 (f_Mo_ofCrane A c 6 + 1)).2) ∧ (0 ≤ f_Mo_ofCrane A c 2 → okx 8 (f_Mo_ofCrane A c 2)) ∧ (0 ≤ f_Mo_ofCrane A c 2 → ∀ t, okx 8 (f_Mo_ofCrane (f_Mo_goes A c t).2 c 2))
def f_se42 (A : mm_M) (c : Nat) : Int32 × mm_M := (if 0 ≤ (f_Mo_ofCrane (A) c 2) then (if (f_Mo_hasGoal (A) c) = 0 then (f_se120 ((f_Mo_lessToGo (A) c).2) c 1) else (if (f_Mo_ofCrane ((f_Mo_goes (A) c (f_Mo_goalOf (A) c)).2) c 0) = (f_Mo_goalOf ((f_Mo_goes (A) c (f_Mo_goalOf (A) c)).2) c) then (if (f_Mo_ofCrane ((f_Mo_goes (A) c (f_Mo_goalOf (A) c)).2) c 1) = 1 then (f_se120 ((f_Mo_begins ((f_Mo_goes (A) c (f_Mo_goalOf (A) c)).2) c 2).2) c ((f_Mo_goes (A) c (f_Mo_goalOf (A) c)).1)) else (f_se120 ((f_Mo_begins ((f_Mo_goes (A) c (f_Mo_goalOf (A) c)).2) c 4).2) c ((f_Mo_goes (A) c (f_Mo_goalOf (A) c)).1))) else (f_se120 ((f_Mo_goes (A) c (f_Mo_goalOf (A) c)).2) c ((f_Mo_goes (A) c (f_Mo_goalOf (A) c)).1)))) else (0, (f_Mo_givesWay (A) c).2))
set_option maxRecDepth 20000 in
set_option maxHeartbeats 1000000 in
theorem sg_se42 {d : Nat} {M : mm_M} {A : mm_M} {Mz : mm_M} {c : Nat}  (hA : rv Mz = A) (hf : rf M Mz) {n : Nat} (hc : c < 3) (hy : rtwo A n c) : mm_Wp pg_Mo_second rt_Mo_second (ct_Sem (d + 3)) (Mz, 42, [some (.inr (5, 24)), some (.inl (nI c)), none], []) (rQ M (none) (f_se42 A c).2) := by
  refine wgo (g' := (Mz, 45, [some (.inr (5, 24)), some (.inl (nI c)), none], [.inl 2, .inl (nI c), .inr (5, 24)])) [oz 0, oz 0, oz 0] rfl ⟨trivial, trivial, trivial, trivial⟩ ?_
  have s1 := sm_Mo_ofCrane (d := d + 2)  (M := Mz) (c := c) (w := 2) (by omega)
  refine wgo (g' := (Mz, 48, [some (.inr (5, 24)), some (.inl (nI c)), none], [.inl (f_Mo_ofCrane (rv Mz) c 2)])) [oc (some (f_Mo_ofCrane (rv Mz) c 2), Mz)] rfl ⟨⟨s1, Nat.le_of_ble_eq_true rfl, Nat.le_of_ble_eq_true rfl, ⟨_, rfl⟩⟩, trivial⟩ ?_
  by_cases h2 : 0 ≤ (f_Mo_ofCrane (rv Mz) c 2)
  · have k3 : 0 ≤ (f_Mo_ofCrane (A) c 2) := by
      have q : 0 ≤ (f_Mo_ofCrane (rv Mz) c 2) := h2
      first | exact q | (simp only [hA] at q; exact q)
    refine wgo (g' := (Mz, 61, [some (.inr (5, 24)), some (.inl (nI c)), some (.inl 1)], [.inl (nI c), .inr (5, 24)])) [oz 1, oz 0, oz 0, oz 0, oz 0] rfl ⟨h2, trivial, Nat.le_of_ble_eq_true rfl, trivial, trivial, trivial⟩ ?_
    have s4 := sm_Mo_hasGoal (d := d + 1)  (M := Mz) (c := c) hc
    refine wgo (g' := (Mz, 64, [some (.inr (5, 24)), some (.inl (nI c)), some (.inl 1)], [.inl (f_Mo_hasGoal (rv Mz) c)])) [oc (some (f_Mo_hasGoal (rv Mz) c), Mz)] rfl ⟨⟨s4, Nat.le_of_ble_eq_true rfl, Nat.le_of_ble_eq_true rfl, ⟨_, rfl⟩⟩, trivial⟩ ?_
    by_cases h5 : (f_Mo_hasGoal (rv Mz) c) = 0
    · have k6 : (f_Mo_hasGoal (A) c) = 0 := by
        have q : (f_Mo_hasGoal (rv Mz) c) = 0 := h5
        first | exact q | (simp only [hA] at q; exact q)
      refine wgo (g' := (Mz, 117, [some (.inr (5, 24)), some (.inl (nI c)), some (.inl 1)], [.inl (nI c), .inr (5, 24)])) [oz 1, oz 0, oz 0] rfl ⟨h5, trivial, trivial, trivial⟩ ?_
      obtain ⟨M7, s8, a9, w10⟩ := rs_Mo_lessToGo (d := d)  (M := Mz) (c := c)  hc (by rw [hA]; exact (hy.2.2.1 k3))
      have a9 : rv M7 = (f_Mo_lessToGo (A) c).2 := a9.trans (show (f_Mo_lessToGo ((rv Mz)) c).2 = _ from by first | rfl | simp only [hA])
      have w10 : rf M M7 := rf_tr hf w10
      refine wgo (g' := (M7, 120, [some (.inr (5, 24)), some (.inl (nI c)), some (.inl 1)], [])) [oc (none, M7)] rfl ⟨⟨s8, Nat.le_of_ble_eq_true rfl, Nat.le_of_ble_eq_true rfl, ⟨_, rfl⟩⟩, trivial⟩ ?_
      have x11 : f_se42 A c = f_se120 ((f_Mo_lessToGo (A) c).2) c 1 := by
        unfold f_se42
        rw [if_pos k3, if_pos k6]
      rw [x11]
      exact sg_se120 (d := d + 2)  (M := M) (Mz := M7) (c := c) (w := 1)  a9 w10 hc
    · have k12 : ¬ ((f_Mo_hasGoal (A) c) = 0) := by
        have q : ¬ ((f_Mo_hasGoal (rv Mz) c) = 0) := h5
        first | exact q | (simp only [hA] at q; exact q)
      refine wgo (g' := (Mz, 71, [some (.inr (5, 24)), some (.inl (nI c)), some (.inl 1)], [.inl (nI c), .inr (5, 24), .inl (nI c), .inr (5, 24)])) [oz 0, oz 0, oz 0, oz 0, oz 0] rfl ⟨h5, trivial, trivial, trivial, trivial, trivial⟩ ?_
      have s13 := sm_Mo_goalOf (d := d + 1)  (M := Mz) (c := c) hc (by rw [hA]; exact (hy.2.2.1 k3))
      refine wgo (g' := (Mz, 74, [some (.inr (5, 24)), some (.inl (nI c)), some (.inl 1)], [.inl (f_Mo_goalOf (rv Mz) c), .inl (nI c), .inr (5, 24)])) [oc (some (f_Mo_goalOf (rv Mz) c), Mz)] rfl ⟨⟨s13, Nat.le_of_ble_eq_true rfl, Nat.le_of_ble_eq_true rfl, ⟨_, rfl⟩⟩, trivial⟩ ?_
      obtain ⟨M14, s15, a16, w17⟩ := rs_Mo_goes (d := d + 1)  (M := Mz) (c := c) (t := f_Mo_goalOf (rv Mz) c)  hc
      have a16 : rv M14 = (f_Mo_goes (A) c (f_Mo_goalOf (A) c)).2 := a16.trans (show (f_Mo_goes ((rv Mz)) c (f_Mo_goalOf (rv Mz) c)).2 = _ from by first | rfl | simp only [hA])
      have w17 : rf M M14 := rf_tr hf w17
      refine wgo (g' := (M14, 81, [some (.inr (5, 24)), some (.inl (nI c)), some (.inl ((f_Mo_goes ((rv Mz)) c (f_Mo_goalOf (rv Mz) c)).1))], [.inl 0, .inl (nI c), .inr (5, 24)])) [oc (some ((f_Mo_goes ((rv Mz)) c (f_Mo_goalOf (rv Mz) c)).1), M14), oz 0, oz 0, oz 0, oz 0] rfl ⟨⟨s15, Nat.le_of_ble_eq_true rfl, Nat.le_of_ble_eq_true rfl, ⟨_, rfl⟩⟩, Nat.le_of_ble_eq_true rfl, trivial, trivial, trivial, trivial⟩ ?_
      have s18 := sm_Mo_ofCrane (d := d + 2)  (M := M14) (c := c) (w := 0) (by omega)
      refine wgo (g' := (M14, 86, [some (.inr (5, 24)), some (.inl (nI c)), some (.inl ((f_Mo_goes ((rv Mz)) c (f_Mo_goalOf (rv Mz) c)).1))], [.inl (nI c), .inr (5, 24), .inl (f_Mo_ofCrane (rv M14) c 0)])) [oc (some (f_Mo_ofCrane (rv M14) c 0), M14), oz 0, oz 0] rfl ⟨⟨s18, Nat.le_of_ble_eq_true rfl, Nat.le_of_ble_eq_true rfl, ⟨_, rfl⟩⟩, trivial, trivial, trivial⟩ ?_
      have s19 := sm_Mo_goalOf (d := d + 1)  (M := M14) (c := c) hc (by rw [a16]; exact hy.2.2.2 k3 _)
      refine wgo (g' := (M14, 89, [some (.inr (5, 24)), some (.inl (nI c)), some (.inl ((f_Mo_goes ((rv Mz)) c (f_Mo_goalOf (rv Mz) c)).1))], [.inl (f_Mo_goalOf (rv M14) c), .inl (f_Mo_ofCrane (rv M14) c 0)])) [oc (some (f_Mo_goalOf (rv M14) c), M14)] rfl ⟨⟨s19, Nat.le_of_ble_eq_true rfl, Nat.le_of_ble_eq_true rfl, ⟨_, rfl⟩⟩, trivial⟩ ?_
      by_cases h20 : (f_Mo_ofCrane (rv M14) c 0) = (f_Mo_goalOf (rv M14) c)
      · have k21 : (f_Mo_ofCrane ((f_Mo_goes (A) c (f_Mo_goalOf (A) c)).2) c 0) = (f_Mo_goalOf ((f_Mo_goes (A) c (f_Mo_goalOf (A) c)).2) c) := by
          have q : (f_Mo_ofCrane (rv M14) c 0) = (f_Mo_goalOf (rv M14) c) := h20
          first | exact q | (simp only [hA, a16] at q; exact q)
        refine wgo (g' := (M14, 97, [some (.inr (5, 24)), some (.inl (nI c)), some (.inl ((f_Mo_goes ((rv Mz)) c (f_Mo_goalOf (rv Mz) c)).1))], [.inl 1, .inl (nI c), .inr (5, 24), .inl (nI c), .inr (5, 24)])) [oz 0, oz 0, oz 0, oz 0, oz 0, oz 0] rfl ⟨(fun z => z h20), trivial, trivial, trivial, trivial, trivial, trivial⟩ ?_
        have s22 := sm_Mo_ofCrane (d := d + 2)  (M := M14) (c := c) (w := 1) (by omega)
        refine wgo (g' := (M14, 101, [some (.inr (5, 24)), some (.inl (nI c)), some (.inl ((f_Mo_goes ((rv Mz)) c (f_Mo_goalOf (rv Mz) c)).1))], [.inl 1, .inl (f_Mo_ofCrane (rv M14) c 1), .inl (nI c), .inr (5, 24)])) [oc (some (f_Mo_ofCrane (rv M14) c 1), M14), oz 0] rfl ⟨⟨s22, Nat.le_of_ble_eq_true rfl, Nat.le_of_ble_eq_true rfl, ⟨_, rfl⟩⟩, trivial, trivial⟩ ?_
        by_cases h23 : (f_Mo_ofCrane (rv M14) c 1) = 1
        · have k24 : (f_Mo_ofCrane ((f_Mo_goes (A) c (f_Mo_goalOf (A) c)).2) c 1) = 1 := by
            have q : (f_Mo_ofCrane (rv M14) c 1) = 1 := h23
            first | exact q | (simp only [hA, a16] at q; exact q)
          refine wgo (g' := (M14, 109, [some (.inr (5, 24)), some (.inl (nI c)), some (.inl ((f_Mo_goes ((rv Mz)) c (f_Mo_goalOf (rv Mz) c)).1))], [.inl 2, .inl (nI c), .inr (5, 24)])) [oz 0, oz 0, oz 0] rfl ⟨(fun z => z h23), trivial, trivial, trivial⟩ ?_
          obtain ⟨M25, s26, a27, w28⟩ := rs_Mo_begins (d := d + 1)  (M := M14) (c := c) (x := 2)  hc
          have a27 : rv M25 = (f_Mo_begins ((f_Mo_goes (A) c (f_Mo_goalOf (A) c)).2) c 2).2 := a27.trans (show (f_Mo_begins ((rv M14)) c 2).2 = _ from by first | rfl | simp only [hA, a16])
          have w28 : rf M M25 := rf_tr w17 w28
          refine wgo (g' := (M25, 120, [some (.inr (5, 24)), some (.inl (nI c)), some (.inl ((f_Mo_goes ((rv Mz)) c (f_Mo_goalOf (rv Mz) c)).1))], [])) [oc (none, M25), oz 0] rfl ⟨⟨s26, Nat.le_of_ble_eq_true rfl, Nat.le_of_ble_eq_true rfl, ⟨_, rfl⟩⟩, trivial, trivial⟩ ?_
          have x29 : f_se42 A c = f_se120 ((f_Mo_begins ((f_Mo_goes (A) c (f_Mo_goalOf (A) c)).2) c 2).2) c ((f_Mo_goes (A) c (f_Mo_goalOf (A) c)).1) := by
            unfold f_se42
            rw [if_pos k3, if_neg k12, if_pos k21, if_pos k24]
          rw [x29]
          have q30 := sg_se120 (d := d + 2)  (M := M) (Mz := M25) (c := c) (w := ((f_Mo_goes ((rv Mz)) c (f_Mo_goalOf (rv Mz) c)).1))  a27 w28 hc
          have z31 : f_se120 ((f_Mo_begins ((f_Mo_goes (A) c (f_Mo_goalOf (A) c)).2) c 2).2) c ((f_Mo_goes ((rv Mz)) c (f_Mo_goalOf (rv Mz) c)).1) = f_se120 ((f_Mo_begins ((f_Mo_goes (A) c (f_Mo_goalOf (A) c)).2) c 2).2) c ((f_Mo_goes (A) c (f_Mo_goalOf (A) c)).1) := (show f_se120 ((f_Mo_begins ((f_Mo_goes (A) c (f_Mo_goalOf (A) c)).2) c 2).2) c ((f_Mo_goes ((rv Mz)) c (f_Mo_goalOf (rv Mz) c)).1) = f_se120 ((f_Mo_begins ((f_Mo_goes (A) c (f_Mo_goalOf (A) c)).2) c 2).2) c ((f_Mo_goes (A) c (f_Mo_goalOf (A) c)).1) from by first | rfl | simp only [hA, a16, a27])
          rw [z31] at q30
          exact q30
        · have k32 : ¬ ((f_Mo_ofCrane ((f_Mo_goes (A) c (f_Mo_goalOf (A) c)).2) c 1) = 1) := by
            have q : ¬ ((f_Mo_ofCrane (rv M14) c 1) = 1) := h23
            first | exact q | (simp only [hA, a16] at q; exact q)
          refine wgo (g' := (M14, 109, [some (.inr (5, 24)), some (.inl (nI c)), some (.inl ((f_Mo_goes ((rv Mz)) c (f_Mo_goalOf (rv Mz) c)).1))], [.inl 4, .inl (nI c), .inr (5, 24)])) [oz 1, oz 0] rfl ⟨h23, trivial, trivial⟩ ?_
          obtain ⟨M33, s34, a35, w36⟩ := rs_Mo_begins (d := d + 1)  (M := M14) (c := c) (x := 4)  hc
          have a35 : rv M33 = (f_Mo_begins ((f_Mo_goes (A) c (f_Mo_goalOf (A) c)).2) c 4).2 := a35.trans (show (f_Mo_begins ((rv M14)) c 4).2 = _ from by first | rfl | simp only [hA, a16])
          have w36 : rf M M33 := rf_tr w17 w36
          refine wgo (g' := (M33, 120, [some (.inr (5, 24)), some (.inl (nI c)), some (.inl ((f_Mo_goes ((rv Mz)) c (f_Mo_goalOf (rv Mz) c)).1))], [])) [oc (none, M33), oz 0] rfl ⟨⟨s34, Nat.le_of_ble_eq_true rfl, Nat.le_of_ble_eq_true rfl, ⟨_, rfl⟩⟩, trivial, trivial⟩ ?_
          have x37 : f_se42 A c = f_se120 ((f_Mo_begins ((f_Mo_goes (A) c (f_Mo_goalOf (A) c)).2) c 4).2) c ((f_Mo_goes (A) c (f_Mo_goalOf (A) c)).1) := by
            unfold f_se42
            rw [if_pos k3, if_neg k12, if_pos k21, if_neg k32]
          rw [x37]
          have q38 := sg_se120 (d := d + 2)  (M := M) (Mz := M33) (c := c) (w := ((f_Mo_goes ((rv Mz)) c (f_Mo_goalOf (rv Mz) c)).1))  a35 w36 hc
          have z39 : f_se120 ((f_Mo_begins ((f_Mo_goes (A) c (f_Mo_goalOf (A) c)).2) c 4).2) c ((f_Mo_goes ((rv Mz)) c (f_Mo_goalOf (rv Mz) c)).1) = f_se120 ((f_Mo_begins ((f_Mo_goes (A) c (f_Mo_goalOf (A) c)).2) c 4).2) c ((f_Mo_goes (A) c (f_Mo_goalOf (A) c)).1) := (show f_se120 ((f_Mo_begins ((f_Mo_goes (A) c (f_Mo_goalOf (A) c)).2) c 4).2) c ((f_Mo_goes ((rv Mz)) c (f_Mo_goalOf (rv Mz) c)).1) = f_se120 ((f_Mo_begins ((f_Mo_goes (A) c (f_Mo_goalOf (A) c)).2) c 4).2) c ((f_Mo_goes (A) c (f_Mo_goalOf (A) c)).1) from by first | rfl | simp only [hA, a16, a35])
          rw [z39] at q38
          exact q38
      · have k40 : ¬ ((f_Mo_ofCrane ((f_Mo_goes (A) c (f_Mo_goalOf (A) c)).2) c 0) = (f_Mo_goalOf ((f_Mo_goes (A) c (f_Mo_goalOf (A) c)).2) c)) := by
          have q : ¬ ((f_Mo_ofCrane (rv M14) c 0) = (f_Mo_goalOf (rv M14) c)) := h20
          first | exact q | (simp only [hA, a16] at q; exact q)
        refine wgo (g' := (M14, 120, [some (.inr (5, 24)), some (.inl (nI c)), some (.inl ((f_Mo_goes ((rv Mz)) c (f_Mo_goalOf (rv Mz) c)).1))], [])) [oz 1] rfl ⟨h20, trivial⟩ ?_
        have x41 : f_se42 A c = f_se120 ((f_Mo_goes (A) c (f_Mo_goalOf (A) c)).2) c ((f_Mo_goes (A) c (f_Mo_goalOf (A) c)).1) := by
          unfold f_se42
          rw [if_pos k3, if_neg k12, if_neg k40]
        rw [x41]
        have q42 := sg_se120 (d := d + 2)  (M := M) (Mz := M14) (c := c) (w := ((f_Mo_goes ((rv Mz)) c (f_Mo_goalOf (rv Mz) c)).1))  a16 w17 hc
        have z43 : f_se120 ((f_Mo_goes (A) c (f_Mo_goalOf (A) c)).2) c ((f_Mo_goes ((rv Mz)) c (f_Mo_goalOf (rv Mz) c)).1) = f_se120 ((f_Mo_goes (A) c (f_Mo_goalOf (A) c)).2) c ((f_Mo_goes (A) c (f_Mo_goalOf (A) c)).1) := (show f_se120 ((f_Mo_goes (A) c (f_Mo_goalOf (A) c)).2) c ((f_Mo_goes ((rv Mz)) c (f_Mo_goalOf (rv Mz) c)).1) = f_se120 ((f_Mo_goes (A) c (f_Mo_goalOf (A) c)).2) c ((f_Mo_goes (A) c (f_Mo_goalOf (A) c)).1) from by first | rfl | simp only [hA, a16])
        rw [z43] at q42
        exact q42
  · have k44 : ¬ (0 ≤ (f_Mo_ofCrane (A) c 2)) := by
      have q : ¬ (0 ≤ (f_Mo_ofCrane (rv Mz) c 2)) := h2
      first | exact q | (simp only [hA] at q; exact q)
    refine wgo (g' := (Mz, 53, [some (.inr (5, 24)), some (.inl (nI c)), none], [.inl (nI c), .inr (5, 24)])) [oz 0, oz 0, oz 0] rfl ⟨h2, trivial, trivial, trivial⟩ ?_
    obtain ⟨M45, s46, a47, w48⟩ := rs_Mo_givesWay (d := d)  (M := Mz) (c := c)  hc (by rw [hA]; exact hy.1) (by rw [hA]; exact hy.2.1)
    have a47 : rv M45 = (f_Mo_givesWay (A) c).2 := a47.trans (show (f_Mo_givesWay ((rv Mz)) c).2 = _ from by first | rfl | simp only [hA])
    have w48 : rf M M45 := rf_tr hf w48
    refine wgo (g' := (M45, 56, [some (.inr (5, 24)), some (.inl (nI c)), none], [])) [oc (none, M45)] rfl ⟨⟨s46, Nat.le_of_ble_eq_true rfl, Nat.le_of_ble_eq_true rfl, ⟨_, rfl⟩⟩, trivial⟩ ?_
    have x49 : f_se42 A c = (0, (f_Mo_givesWay (A) c).2) := by
      unfold f_se42
      rw [if_neg k44]
    exact wend ⟨rfl, rfl⟩ ⟨rfl, a47.trans (congrArg Prod.snd x49).symm, w48⟩
def f_Mo_second (A : mm_M) (c : Nat) : Int32 × mm_M := (if (f_Mo_ofCrane (A) c 8) = 1 then (0, (f_Mo_setCrane (A) c 7 ((f_Mo_ofCrane (A) c 7) + 1)).2) else (if 0 ≤ (f_Mo_ofCrane (A) c 2) then (f_se42 (A) c) else (f_se42 ((f_Mo_takesJob (A) c).2) c)))
set_option maxRecDepth 20000 in
set_option maxHeartbeats 1000000 in
theorem rs_Mo_second {d : Nat} {M : mm_M} {c : Nat}  {n m : Nat} (hc : c < 3) (hm : rv M 0 5 = nI m) (hm8 : m ≤ 8) (hy1 : 0 ≤ f_Mo_ofCrane (rv M) c 2 → rtwo (rv M) n c) (hy2 : rtwo (f_Mo_takesJob (rv M) c).2 n c) : RS (d + 4) 58  M [.inr (5, 24), .inl (nI c)] (none) (f_Mo_second (rv M) c).2 := by
  refine RS_of (Nat.le_of_ble_eq_true rfl) ?_
  show mm_Wp pg_Mo_second rt_Mo_second (ct_Sem (d + 3)) (M, 0, [some (.inr (5, 24)), some (.inl (nI c)), none], []) _
  refine wgo (g' := (M, 4, [some (.inr (5, 24)), some (.inl (nI c)), none], [.inl 8, .inl (nI c), .inr (5, 24)])) [oz 0, oz 0, oz 0] rfl ⟨trivial, trivial, trivial, trivial⟩ ?_
  have s1 := sm_Mo_ofCrane (d := d + 2)  (M := M) (c := c) (w := 8) (by omega)
  refine wgo (g' := (M, 8, [some (.inr (5, 24)), some (.inl (nI c)), none], [.inl 1, .inl (f_Mo_ofCrane (rv M) c 8)])) [oc (some (f_Mo_ofCrane (rv M) c 8), M), oz 0] rfl ⟨⟨s1, Nat.le_of_ble_eq_true rfl, Nat.le_of_ble_eq_true rfl, ⟨_, rfl⟩⟩, trivial, trivial⟩ ?_
  by_cases h2 : (f_Mo_ofCrane (rv M) c 8) = 1
  · have k3 : (f_Mo_ofCrane ((rv M)) c 8) = 1 := by
      have q : (f_Mo_ofCrane (rv M) c 8) = 1 := h2
      exact q
    refine wgo (g' := (M, 19, [some (.inr (5, 24)), some (.inl (nI c)), none], [.inl 7, .inl (nI c), .inr (5, 24), .inl 7, .inl (nI c), .inr (5, 24)])) [oz 0, oz 0, oz 0, oz 0, oz 0, oz 0, oz 0] rfl ⟨(fun z => z h2), trivial, trivial, trivial, trivial, trivial, trivial, trivial⟩ ?_
    have s4 := sm_Mo_ofCrane (d := d + 2)  (M := M) (c := c) (w := 7) (by omega)
    refine wgo (g' := (M, 24, [some (.inr (5, 24)), some (.inl (nI c)), none], [.inl ((f_Mo_ofCrane (rv M) c 7) + 1), .inl 7, .inl (nI c), .inr (5, 24)])) [oc (some (f_Mo_ofCrane (rv M) c 7), M), oz 0, oz 0] rfl ⟨⟨s4, Nat.le_of_ble_eq_true rfl, Nat.le_of_ble_eq_true rfl, ⟨_, rfl⟩⟩, trivial, trivial, trivial⟩ ?_
    obtain ⟨M5, s6, a7, w8⟩ := rs_Mo_setCrane (d := d + 2)  (M := M) (c := c) (w := 7) (x := (f_Mo_ofCrane (rv M) c 7) + 1)  (by omega)
    have a7 : rv M5 = (f_Mo_setCrane ((rv M)) c 7 ((f_Mo_ofCrane ((rv M)) c 7) + 1)).2 := a7.trans (show (f_Mo_setCrane ((rv M)) c 7 ((f_Mo_ofCrane (rv M) c 7) + 1)).2 = _ from by first | rfl | simp only [rv])
    have w8 : rf M M5 := rf_tr rf_rf w8
    refine wgo (g' := (M5, 27, [some (.inr (5, 24)), some (.inl (nI c)), none], [])) [oc (none, M5)] rfl ⟨⟨s6, Nat.le_of_ble_eq_true rfl, Nat.le_of_ble_eq_true rfl, ⟨_, rfl⟩⟩, trivial⟩ ?_
    have x9 : f_Mo_second (rv M) c = (0, (f_Mo_setCrane ((rv M)) c 7 ((f_Mo_ofCrane ((rv M)) c 7) + 1)).2) := by
      unfold f_Mo_second
      rw [if_pos k3]
    exact wend ⟨rfl, rfl⟩ ⟨rfl, a7.trans (congrArg Prod.snd x9).symm, w8⟩
  · have k10 : ¬ ((f_Mo_ofCrane ((rv M)) c 8) = 1) := by
      have q : ¬ ((f_Mo_ofCrane (rv M) c 8) = 1) := h2
      exact q
    refine wgo (g' := (M, 31, [some (.inr (5, 24)), some (.inl (nI c)), none], [.inl 2, .inl (nI c), .inr (5, 24)])) [oz 1, oz 0, oz 0, oz 0] rfl ⟨h2, trivial, trivial, trivial, trivial⟩ ?_
    have s11 := sm_Mo_ofCrane (d := d + 2)  (M := M) (c := c) (w := 2) (by omega)
    refine wgo (g' := (M, 34, [some (.inr (5, 24)), some (.inl (nI c)), none], [.inl (f_Mo_ofCrane (rv M) c 2)])) [oc (some (f_Mo_ofCrane (rv M) c 2), M)] rfl ⟨⟨s11, Nat.le_of_ble_eq_true rfl, Nat.le_of_ble_eq_true rfl, ⟨_, rfl⟩⟩, trivial⟩ ?_
    by_cases h12 : 0 ≤ (f_Mo_ofCrane (rv M) c 2)
    · have k13 : 0 ≤ (f_Mo_ofCrane ((rv M)) c 2) := by
        have q : 0 ≤ (f_Mo_ofCrane (rv M) c 2) := h12
        exact q
      refine wgo (g' := (M, 42, [some (.inr (5, 24)), some (.inl (nI c)), none], [])) [oz 1] rfl ⟨h12, trivial⟩ ?_
      have x14 : f_Mo_second (rv M) c = f_se42 ((rv M)) c := by
        unfold f_Mo_second
        rw [if_neg k10, if_pos k13]
      rw [x14]
      exact sg_se42 (d := d)  (M := M) (Mz := M) (c := c)  rfl rf_rf hc (hy1 k13)
    · have k15 : ¬ (0 ≤ (f_Mo_ofCrane ((rv M)) c 2)) := by
        have q : ¬ (0 ≤ (f_Mo_ofCrane (rv M) c 2)) := h12
        exact q
      refine wgo (g' := (M, 39, [some (.inr (5, 24)), some (.inl (nI c)), none], [.inl (nI c), .inr (5, 24)])) [oz 0, oz 0, oz 0] rfl ⟨h12, trivial, trivial, trivial⟩ ?_
      obtain ⟨M16, s17, a18, w19⟩ := rs_Mo_takesJob (d := d)  (M := M) (c := c)  hc hm hm8
      have a18 : rv M16 = (f_Mo_takesJob ((rv M)) c).2 := a18.trans (show (f_Mo_takesJob ((rv M)) c).2 = _ from by first | rfl | simp only [rv])
      have w19 : rf M M16 := rf_tr rf_rf w19
      refine wgo (g' := (M16, 42, [some (.inr (5, 24)), some (.inl (nI c)), none], [])) [oc (none, M16)] rfl ⟨⟨s17, Nat.le_of_ble_eq_true rfl, Nat.le_of_ble_eq_true rfl, ⟨_, rfl⟩⟩, trivial⟩ ?_
      have x20 : f_Mo_second (rv M) c = f_se42 ((f_Mo_takesJob ((rv M)) c).2) c := by
        unfold f_Mo_second
        rw [if_neg k10, if_neg k15]
      rw [x20]
      exact sg_se42 (d := d)  (M := M) (Mz := M16) (c := c)  a18 w19 hc hy2
end
section
/-- what the reference's second of crane c needs -/
def rone (X : mm_M) (n c : Nat) : Prop := (∃ m, m ≤ 8 ∧ X 0 5 = nI m) ∧ (0 ≤ f_Mo_ofCrane X c 2 → rtwo X n c) ∧ rtwo (f_Mo_takesJob X c).2 n c
def f_ra2 : Nat → mm_M → Nat → Int32 × mm_M
  | 0, A, _ => (0, A)
  | r + 1, A, i => (if ((A) 0 1) ≤ (nI i) then (0, A) else (if ((A) 3 1) ≤ ((f_Mo_ofCrane (A) i 0) - (f_Mo_ofCrane (A) (i - 1) 0)) then (f_ra2 r (mm_up (A) 3 1 ((A) 3 1)) (i + 1)) else (f_ra2 r (mm_up (A) 3 1 ((f_Mo_ofCrane (A) i 0) - (f_Mo_ofCrane (A) (i - 1) 0))) (i + 1))))
set_option maxRecDepth 20000 in
set_option maxHeartbeats 1000000 in
theorem lp_ra2 {d : Nat} {M : mm_M}    {n : Nat} (hn3 : n ≤ 3) : ∀ (r : Nat) (A : mm_M) (Mz : mm_M) (i : Nat) (o2 : Option mm_V), rv Mz = A → rf M Mz → (A 0 1 = nI n) → (1 ≤ i) → (i ≤ n ∨ i = 1) → (n + 1 < i + r) → mm_Wp pg_Mo_secondOfAll rt_Mo_secondOfAll (ct_Sem (d + 1)) (Mz, 33, [some (.inr (5, 24)), some (.inl (nI i)), o2], []) (rQ M (none) (f_ra2 r A i).2) := by
  intro r
  induction r with
  | zero =>
    intro A Mz i o2 hA hf hn h1i hi hr
    exfalso; omega
  | succ r ih =>
    intro A Mz i o2 hA hf hn h1i hi hr
    refine wgo (g' := (Mz, 38, [some (.inr (5, 24)), some (.inl (nI i)), o2], [.inl (Mz 24 1), .inl (nI i)])) [oz 0, oz 0, oz 0] rfl ⟨trivial, trivial, trivial, trivial⟩ ?_
    by_cases h1 : (Mz 24 1) ≤ (nI i)
    · have k2 : ((A) 0 1) ≤ (nI i) := by
        have q : ((rv Mz) 0 1) ≤ (nI i) := h1
        first | exact q | (simp only [hA] at q; exact q)
      refine wgo (g' := (Mz, 89, [some (.inr (5, 24)), some (.inl (nI i)), o2], [])) [oz 1] rfl ⟨h1, trivial⟩ ?_
      have x3 : f_ra2 (r + 1) A i = (0, A) := by
        rw [f_ra2]
        rw [if_pos k2]
      exact wend ⟨rfl, rfl⟩ ⟨rfl, hA.trans (congrArg Prod.snd x3).symm, hf⟩
    · have k4 : ¬ (((A) 0 1) ≤ (nI i)) := by
        have q : ¬ (((rv Mz) 0 1) ≤ (nI i)) := h1
        first | exact q | (simp only [hA] at q; exact q)
      refine wgo (g' := (Mz, 44, [some (.inr (5, 24)), some (.inl (nI i)), o2], [.inl 0, .inl (nI i), .inr (5, 24)])) [oz 0, oz 0, oz 0, oz 0] rfl ⟨h1, trivial, trivial, trivial, trivial⟩ ?_
      have s5 := sm_Mo_ofCrane (d := d)  (M := Mz) (c := i) (w := 0) (by have q := (nI_sm hn hn3 hi k4); omega)
      refine wgo (g' := (Mz, 52, [some (.inr (5, 24)), some (.inl (nI i)), o2], [.inl 0, .inl ((nI i) - 1), .inr (5, 24), .inl (f_Mo_ofCrane (rv Mz) i 0)])) [oc (some (f_Mo_ofCrane (rv Mz) i 0), Mz), oz 0, oz 0, oz 0, oz 0, oz 0] rfl ⟨⟨s5, Nat.le_of_ble_eq_true rfl, Nat.le_of_ble_eq_true rfl, ⟨_, rfl⟩⟩, trivial, trivial, trivial, trivial, trivial, trivial⟩ ?_
      have s6 := sm_Mo_ofCrane (d := d)  (M := Mz) (c := i - 1) (w := 0) (by have q := (nI_sm hn hn3 hi k4); omega)
      rw [← (nI_m1 (by omega : 0 < i))] at s6
      refine wgo (g' := (Mz, 69, [some (.inr (5, 24)), some (.inl (nI i)), some (.inl ((f_Mo_ofCrane (rv Mz) i 0) - (f_Mo_ofCrane (rv Mz) (i - 1) 0)))], [.inl (Mz 27 1), .inl ((f_Mo_ofCrane (rv Mz) i 0) - (f_Mo_ofCrane (rv Mz) (i - 1) 0)), .inl 1, .inr (13, 27)])) [oc (some (f_Mo_ofCrane (rv Mz) (i - 1) 0), Mz), oz 0, oz 0, oz 0, oz 0, oz 0, oz 0, oz 0, oz 0, oz 0, oz 1] rfl ⟨⟨s6, Nat.le_of_ble_eq_true rfl, Nat.le_of_ble_eq_true rfl, ⟨_, rfl⟩⟩, trivial, Nat.le_of_ble_eq_true rfl, trivial, trivial, trivial, trivial, trivial, trivial, trivial, ⟨rfl, by decide⟩, trivial⟩ ?_
      by_cases h7 : (Mz 27 1) ≤ ((f_Mo_ofCrane (rv Mz) i 0) - (f_Mo_ofCrane (rv Mz) (i - 1) 0))
      · have k8 : ((A) 3 1) ≤ ((f_Mo_ofCrane (A) i 0) - (f_Mo_ofCrane (A) (i - 1) 0)) := by
          have q : ((rv Mz) 3 1) ≤ ((f_Mo_ofCrane (rv Mz) i 0) - (f_Mo_ofCrane (rv Mz) (i - 1) 0)) := h7
          first | exact q | (simp only [hA] at q; exact q)
        refine wgo (g' := (mm_up Mz 27 1 (Mz 27 1), 83, [some (.inr (5, 24)), some (.inl (nI i)), some (.inl ((f_Mo_ofCrane (rv Mz) i 0) - (f_Mo_ofCrane (rv Mz) (i - 1) 0)))], [])) [oz 1, oz 0, oz 0, oz 0, oz 1, oz 1] rfl ⟨h7, trivial, trivial, trivial, ⟨rfl, by decide⟩, ⟨rfl, by decide⟩, trivial⟩ ?_
        generalize e10 : mm_up Mz 27 1 (Mz 27 1) = M9
        have a11 : rv M9 = mm_up (A) 3 1 ((A) 3 1) := by
          rw [← e10]
          refine (rv_up 3).trans ?_
          show mm_up ((rv Mz)) 3 1 ((rv Mz) 3 1) = _
          first | rfl | simp only [hA]
        have w12 : rf M M9 := by rw [← e10]; exact rf_up hf (by decide)
        refine wgo (g' := (M9, 33, [some (.inr (5, 24)), some (.inl ((nI i) + 1)), some (.inl ((f_Mo_ofCrane (rv Mz) i 0) - (f_Mo_ofCrane (rv Mz) (i - 1) 0)))], [])) [oz 0, oz 0] rfl ⟨trivial, trivial, trivial⟩ ?_
        rw [nI_1 i]
        have x13 : f_ra2 (r + 1) A i = f_ra2 r (mm_up (A) 3 1 ((A) 3 1)) (i + 1) := by
          rw [f_ra2]
          rw [if_neg k4, if_pos k8]
        rw [x13]
        exact ih _ M9 (i + 1) (some (.inl ((f_Mo_ofCrane (rv Mz) i 0) - (f_Mo_ofCrane (rv Mz) (i - 1) 0)))) a11 w12 hn (by omega) (Or.inl (nI_sm hn hn3 hi k4)) (by omega)
      · have k14 : ¬ (((A) 3 1) ≤ ((f_Mo_ofCrane (A) i 0) - (f_Mo_ofCrane (A) (i - 1) 0))) := by
          have q : ¬ (((rv Mz) 3 1) ≤ ((f_Mo_ofCrane (rv Mz) i 0) - (f_Mo_ofCrane (rv Mz) (i - 1) 0))) := h7
          first | exact q | (simp only [hA] at q; exact q)
        refine wgo (g' := (mm_up Mz 27 1 ((f_Mo_ofCrane (rv Mz) i 0) - (f_Mo_ofCrane (rv Mz) (i - 1) 0)), 83, [some (.inr (5, 24)), some (.inl (nI i)), some (.inl ((f_Mo_ofCrane (rv Mz) i 0) - (f_Mo_ofCrane (rv Mz) (i - 1) 0)))], [])) [oz 0, oz 0, oz 0, oz 1] rfl ⟨h7, trivial, trivial, ⟨rfl, by decide⟩, trivial⟩ ?_
        generalize e16 : mm_up Mz 27 1 ((f_Mo_ofCrane (rv Mz) i 0) - (f_Mo_ofCrane (rv Mz) (i - 1) 0)) = M15
        have a17 : rv M15 = mm_up (A) 3 1 ((f_Mo_ofCrane (A) i 0) - (f_Mo_ofCrane (A) (i - 1) 0)) := by
          rw [← e16]
          refine (rv_up 3).trans ?_
          show mm_up ((rv Mz)) 3 1 ((f_Mo_ofCrane (rv Mz) i 0) - (f_Mo_ofCrane (rv Mz) (i - 1) 0)) = _
          first | rfl | simp only [hA]
        have w18 : rf M M15 := by rw [← e16]; exact rf_up hf (by decide)
        refine wgo (g' := (M15, 33, [some (.inr (5, 24)), some (.inl ((nI i) + 1)), some (.inl ((f_Mo_ofCrane (rv Mz) i 0) - (f_Mo_ofCrane (rv Mz) (i - 1) 0)))], [])) [oz 0, oz 0] rfl ⟨trivial, trivial, trivial⟩ ?_
        rw [nI_1 i]
        have x19 : f_ra2 (r + 1) A i = f_ra2 r (mm_up (A) 3 1 ((f_Mo_ofCrane (A) i 0) - (f_Mo_ofCrane (A) (i - 1) 0))) (i + 1) := by
          rw [f_ra2]
          rw [if_neg k4, if_neg k14]
        rw [x19]
        exact ih _ M15 (i + 1) (some (.inl ((f_Mo_ofCrane (rv Mz) i 0) - (f_Mo_ofCrane (rv Mz) (i - 1) 0)))) a17 w18 hn (by omega) (Or.inl (nI_sm hn hn3 hi k4)) (by omega)
def f_ra1 : Nat → mm_M → Nat → Int32 × mm_M
  | 0, A, _ => (0, A)
  | r + 1, A, i => (if ((A) 0 1) ≤ (nI i) then (f_ra2 4 (mm_up (A) 3 0 (((A) 3 0) + 1)) 1) else (f_ra1 r ((f_Mo_second (A) i).2) (i + 1)))
set_option maxRecDepth 20000 in
set_option maxHeartbeats 1000000 in
theorem lp_ra1 {d : Nat} {M : mm_M}    {n : Nat} {I : mm_M → Prop} (hn3 : n ≤ 3) (hI0 : ∀ X, I X → X 0 1 = nI n) (hI1 : ∀ X i, I X → i < n → rone X n i) (hI2 : ∀ X i, I X → i < n → I (f_Mo_second X i).2) : ∀ (r : Nat) (A : mm_M) (Mz : mm_M) (i : Nat), rv Mz = A → rf M Mz → (I A) → (i ≤ n) → (n < i + r) → mm_Wp pg_Mo_secondOfAll rt_Mo_secondOfAll (ct_Sem (d + 4)) (Mz, 2, [some (.inr (5, 24)), some (.inl (nI i)), none], []) (rQ M (none) (f_ra1 r A i).2) := by
  intro r
  induction r with
  | zero =>
    intro A Mz i hA hf hI hi hr
    exfalso; omega
  | succ r ih =>
    intro A Mz i hA hf hI hi hr
    refine wgo (g' := (Mz, 7, [some (.inr (5, 24)), some (.inl (nI i)), none], [.inl (Mz 24 1), .inl (nI i)])) [oz 0, oz 0, oz 0] rfl ⟨trivial, trivial, trivial, trivial⟩ ?_
    by_cases h1 : (Mz 24 1) ≤ (nI i)
    · have k2 : ((A) 0 1) ≤ (nI i) := by
        have q : ((rv Mz) 0 1) ≤ (nI i) := h1
        first | exact q | (simp only [hA] at q; exact q)
      refine wgo (g' := (mm_up Mz 27 0 ((Mz 27 0) + 1), 31, [some (.inr (5, 24)), some (.inl (nI i)), none], [])) [oz 1, oz 0, oz 0, oz 0, oz 0, oz 0, oz 0, oz 0, oz 0] rfl ⟨h1, trivial, trivial, trivial, trivial, ⟨rfl, by decide⟩, trivial, trivial, ⟨rfl, by decide⟩, trivial⟩ ?_
      generalize e4 : mm_up Mz 27 0 ((Mz 27 0) + 1) = M3
      have a5 : rv M3 = mm_up (A) 3 0 (((A) 3 0) + 1) := by
        rw [← e4]
        refine (rv_up 3).trans ?_
        show mm_up ((rv Mz)) 3 0 (((rv Mz) 3 0) + 1) = _
        first | rfl | simp only [hA]
      have w6 : rf M M3 := by rw [← e4]; exact rf_up hf (by decide)
      refine wgo (g' := (M3, 33, [some (.inr (5, 24)), some (.inl 1), none], [])) [oz 0, oz 0] rfl ⟨trivial, Nat.le_of_ble_eq_true rfl, trivial⟩ ?_
      have x7 : f_ra1 (r + 1) A i = f_ra2 4 (mm_up (A) 3 0 (((A) 3 0) + 1)) 1 := by
        rw [f_ra1]
        rw [if_pos k2]
      rw [x7]
      exact lp_ra2 (d := d + 3)  (M := M)   hn3 4 _ M3 1 (none) a5 w6 (hI0 A hI) (Nat.le_refl 1) (Or.inr rfl) (by omega)
    · have k8 : ¬ (((A) 0 1) ≤ (nI i)) := by
        have q : ¬ (((rv Mz) 0 1) ≤ (nI i)) := h1
        first | exact q | (simp only [hA] at q; exact q)
      refine wgo (g' := (Mz, 12, [some (.inr (5, 24)), some (.inl (nI i)), none], [.inl (nI i), .inr (5, 24)])) [oz 0, oz 0, oz 0] rfl ⟨h1, trivial, trivial, trivial⟩ ?_
      obtain ⟨M9, s10, a11, w12⟩ := rs_Mo_second (d := d)  (M := Mz) (c := i)  (Nat.lt_of_lt_of_le (nI_sl (hI0 _ hI) (by omega) hi k8) hn3) (by rw [hA]; exact (hI1 _ _ hI (nI_sl (hI0 _ hI) (by omega) hi k8)).1.choose_spec.2) (hI1 _ _ hI (nI_sl (hI0 _ hI) (by omega) hi k8)).1.choose_spec.1 (by rw [hA]; exact (hI1 _ _ hI (nI_sl (hI0 _ hI) (by omega) hi k8)).2.1) (by rw [hA]; exact (hI1 _ _ hI (nI_sl (hI0 _ hI) (by omega) hi k8)).2.2)
      have a11 : rv M9 = (f_Mo_second (A) i).2 := a11.trans (show (f_Mo_second ((rv Mz)) i).2 = _ from by first | rfl | simp only [hA])
      have w12 : rf M M9 := rf_tr hf w12
      refine wgo (g' := (M9, 2, [some (.inr (5, 24)), some (.inl ((nI i) + 1)), none], [])) [oc (none, M9), oz 0, oz 0] rfl ⟨⟨s10, Nat.le_of_ble_eq_true rfl, Nat.le_of_ble_eq_true rfl, ⟨_, rfl⟩⟩, trivial, trivial, trivial⟩ ?_
      rw [nI_1 i]
      have x13 : f_ra1 (r + 1) A i = f_ra1 r ((f_Mo_second (A) i).2) (i + 1) := by
        rw [f_ra1]
        rw [if_neg k8]
      rw [x13]
      exact ih _ M9 (i + 1) a11 w12 (hI2 _ _ hI (nI_sl (hI0 _ hI) (by omega) hi k8)) (nI_sl (hI0 _ hI) (by omega) hi k8) (by omega)
def f_Mo_secondOfAll (A : mm_M)  : Int32 × mm_M := (f_ra1 4 (A) 0)
set_option maxRecDepth 20000 in
set_option maxHeartbeats 1000000 in
theorem rs_Mo_secondOfAll {d : Nat} {M : mm_M}   {n : Nat} {I : mm_M → Prop} (hn3 : n ≤ 3) (hI0 : ∀ X, I X → X 0 1 = nI n) (hI1 : ∀ X i, I X → i < n → rone X n i) (hI2 : ∀ X i, I X → i < n → I (f_Mo_second X i).2) (hI : I (rv M)) : RS (d + 5) 59  M [.inr (5, 24)] (none) (f_Mo_secondOfAll (rv M) ).2 := by
  refine RS_of (Nat.le_of_ble_eq_true rfl) ?_
  show mm_Wp pg_Mo_secondOfAll rt_Mo_secondOfAll (ct_Sem (d + 4)) (M, 0, [some (.inr (5, 24)), none, none], []) _
  refine wgo (g' := (M, 2, [some (.inr (5, 24)), some (.inl 0), none], [])) [oz 0, oz 0] rfl ⟨trivial, Nat.le_of_ble_eq_true rfl, trivial⟩ ?_
  have x1 : f_Mo_secondOfAll (rv M) = f_ra1 4 ((rv M)) 0 := by
    unfold f_Mo_secondOfAll
    rfl
  rw [x1]
  exact lp_ra1 (d := d)  (M := M)   hn3 hI0 hI1 hI2 4 _ M 0  rfl rf_rf hI (Nat.zero_le _) (by omega)
def f_dn : Nat → mm_M → Int32 → Nat → Int32
  | 0, _, _, _ => 0
  | r + 1, A, x, i => (if ((A) 0 5) ≤ (nI i) then x else (if x = 0 then (f_dn r (A) 0 (i + 1)) else (if (f_Mo_ofJob (A) i 3) = 3 then (f_dn r (A) 1 (i + 1)) else (f_dn r (A) 0 (i + 1)))))
set_option maxRecDepth 20000 in
set_option maxHeartbeats 1000000 in
theorem lp_dn {d : Nat} {M : mm_M}   {n : Nat} (hn : rv M 0 5 = nI n) (hn8 : n ≤ 8) : ∀ (r : Nat) (x : Int32) (i : Nat), (x = 0 ∨ x = 1) → (i ≤ n) → (n < i + r) → mm_Wp pg_Mo_isAllDone rt_Mo_isAllDone (ct_Sem (d + 1)) (M, 4, [some (.inr (5, 24)), some (.inl x), some (.inl (nI i))], []) (fun res => res = (some (f_dn r (rv M) x i), M)) := by
  intro r
  induction r with
  | zero =>
    intro x i hx hi hr
    exfalso; omega
  | succ r ih =>
    intro x i hx hi hr
    refine wgo (g' := (M, 9, [some (.inr (5, 24)), some (.inl x), some (.inl (nI i))], [.inl (M 24 5), .inl (nI i)])) [oz 0, oz 0, oz 0] rfl ⟨trivial, trivial, trivial, trivial⟩ ?_
    by_cases h1 : (M 24 5) ≤ (nI i)
    · have k2 : (((rv M)) 0 5) ≤ (nI i) := by
        have q : ((rv M) 0 5) ≤ (nI i) := h1
        exact q
      refine wgo (g' := (M, 39, [some (.inr (5, 24)), some (.inl x), some (.inl (nI i))], [.inl x])) [oz 1, oz 0] rfl ⟨h1, trivial, trivial⟩ ?_
      have x3 : f_dn (r + 1) (rv M) x i = x := by
        rw [f_dn]
        rw [if_pos k2]
      exact wend ⟨_, rfl, rfl, hx⟩ (congrArg (fun q => (some q, M)) x3.symm)
    · have k4 : ¬ ((((rv M)) 0 5) ≤ (nI i)) := by
        have q : ¬ (((rv M) 0 5) ≤ (nI i)) := h1
        exact q
      refine wgo (g' := (M, 13, [some (.inr (5, 24)), some (.inl x), some (.inl (nI i))], [.inl x])) [oz 0, oz 0] rfl ⟨h1, trivial, trivial⟩ ?_
      by_cases h5 : x = 0
      · have k6 : x = 0 := by
          have q : x = 0 := h5
          exact q
        refine wgo (g' := (M, 4, [some (.inr (5, 24)), some (.inl 0), some (.inl ((nI i) + 1))], [])) [oz 1, oz 0, oz 0, oz 0, oz 0] rfl ⟨h5, trivial, Nat.le_of_ble_eq_true rfl, trivial, trivial, trivial⟩ ?_
        rw [nI_1 i]
        have x7 : f_dn (r + 1) (rv M) x i = f_dn r ((rv M)) 0 (i + 1) := by
          rw [f_dn]
          rw [if_neg k4, if_pos k6]
        rw [x7]
        exact ih 0 (i + 1) (Or.inl rfl) (nI_sl hn (by omega) hi k4) (by omega)
      · have k8 : ¬ (x = 0) := by
          have q : ¬ (x = 0) := h5
          exact q
        refine wgo (g' := (M, 19, [some (.inr (5, 24)), some (.inl x), some (.inl (nI i))], [.inl 3, .inl (nI i), .inr (5, 24)])) [oz 0, oz 0, oz 0, oz 0] rfl ⟨h5, trivial, trivial, trivial, trivial⟩ ?_
        have s9 := sm_Mo_ofJob (d := d)  (M := M) (j := i) (w := 3) (by have q := (nI_sl hn (by omega) hi k4); omega)
        refine wgo (g' := (M, 23, [some (.inr (5, 24)), some (.inl x), some (.inl (nI i))], [.inl 3, .inl (f_Mo_ofJob (rv M) i 3)])) [oc (some (f_Mo_ofJob (rv M) i 3), M), oz 0] rfl ⟨⟨s9, Nat.le_of_ble_eq_true rfl, Nat.le_of_ble_eq_true rfl, ⟨_, rfl⟩⟩, trivial, trivial⟩ ?_
        by_cases h10 : (f_Mo_ofJob (rv M) i 3) = 3
        · have k11 : (f_Mo_ofJob ((rv M)) i 3) = 3 := by
            have q : (f_Mo_ofJob (rv M) i 3) = 3 := h10
            exact q
          refine wgo (g' := (M, 4, [some (.inr (5, 24)), some (.inl 1), some (.inl ((nI i) + 1))], [])) [oz 0, oz 0, oz 0, oz 0, oz 0, oz 0] rfl ⟨(fun z => z h10), trivial, trivial, Nat.le_of_ble_eq_true rfl, trivial, trivial, trivial⟩ ?_
          rw [nI_1 i]
          have x12 : f_dn (r + 1) (rv M) x i = f_dn r ((rv M)) 1 (i + 1) := by
            rw [f_dn]
            rw [if_neg k4, if_neg k8, if_pos k11]
          rw [x12]
          exact ih 1 (i + 1) (Or.inr rfl) (nI_sl hn (by omega) hi k4) (by omega)
        · have k13 : ¬ ((f_Mo_ofJob ((rv M)) i 3) = 3) := by
            have q : ¬ ((f_Mo_ofJob (rv M) i 3) = 3) := h10
            exact q
          refine wgo (g' := (M, 4, [some (.inr (5, 24)), some (.inl 0), some (.inl ((nI i) + 1))], [])) [oz 1, oz 0, oz 0, oz 0, oz 0] rfl ⟨h10, trivial, Nat.le_of_ble_eq_true rfl, trivial, trivial, trivial⟩ ?_
          rw [nI_1 i]
          have x14 : f_dn (r + 1) (rv M) x i = f_dn r ((rv M)) 0 (i + 1) := by
            rw [f_dn]
            rw [if_neg k4, if_neg k8, if_neg k13]
          rw [x14]
          exact ih 0 (i + 1) (Or.inl rfl) (nI_sl hn (by omega) hi k4) (by omega)
def f_Mo_isAllDone (A : mm_M)  : Int32 := (f_dn 9 (A) 1 0)
set_option maxRecDepth 20000 in
set_option maxHeartbeats 1000000 in
theorem sm_Mo_isAllDone {d : Nat} {M : mm_M}  {n : Nat} (hn : rv M 0 5 = nI n) (hn8 : n ≤ 8) : ct_Sem (d + 2) 64 M [.inr (5, 24)] (some (f_Mo_isAllDone (rv M) ), M) := by
  refine SM_of (Nat.le_of_ble_eq_true rfl) ?_
  show mm_Wp pg_Mo_isAllDone rt_Mo_isAllDone (ct_Sem (d + 1)) (M, 0, [some (.inr (5, 24)), none, none], []) _
  refine wgo (g' := (M, 4, [some (.inr (5, 24)), some (.inl 1), some (.inl 0)], [])) [oz 0, oz 0, oz 0, oz 0] rfl ⟨trivial, Nat.le_of_ble_eq_true rfl, trivial, Nat.le_of_ble_eq_true rfl, trivial⟩ ?_
  have x1 : f_Mo_isAllDone (rv M) = f_dn 9 ((rv M)) 1 0 := by
    unfold f_Mo_isAllDone
    rfl
  rw [x1]
  exact lp_dn (d := d)  (M := M) hn hn8 9 1 0  (Or.inr rfl) (Nat.zero_le _) (by omega)
def f_iw : Nat → mm_M → Nat → Int32 → Nat → Int32
  | 0, _, _, _, _ => 0
  | r + 1, A, k, x, i => (if (nI k) ≤ (nI i) then x else (if x = 0 then (if (((A) 5 i) / 10) = (((A) 5 k) / 10) then (f_iw r (A) k 1 (i + 1)) else (f_iw r (A) k 0 (i + 1))) else (f_iw r (A) k 1 (i + 1))))
set_option maxRecDepth 20000 in
set_option maxHeartbeats 1000000 in
theorem lp_iw {d : Nat} {M : mm_M} {k : Nat}  (hk : k < 5) : ∀ (r : Nat) (x : Int32) (i : Nat), (x = 0 ∨ x = 1) → (i ≤ k) → (k < i + r) → mm_Wp pg_Mo_isInWay rt_Mo_isInWay (ct_Sem (d + 0)) (M, 4, [some (.inr (5, 24)), some (.inl (nI k)), some (.inl x), some (.inl (nI i))], []) (fun res => res = (some (f_iw r (rv M) k x i), M)) := by
  intro r
  induction r with
  | zero =>
    intro x i hx hi hr
    exfalso; omega
  | succ r ih =>
    intro x i hx hi hr
    refine wgo (g' := (M, 6, [some (.inr (5, 24)), some (.inl (nI k)), some (.inl x), some (.inl (nI i))], [.inl (nI k), .inl (nI i)])) [oz 0, oz 0] rfl ⟨trivial, trivial, trivial⟩ ?_
    by_cases h1 : (nI k) ≤ (nI i)
    · have k2 : (nI k) ≤ (nI i) := by
        have q : (nI k) ≤ (nI i) := h1
        exact q
      refine wgo (g' := (M, 47, [some (.inr (5, 24)), some (.inl (nI k)), some (.inl x), some (.inl (nI i))], [.inl x])) [oz 1, oz 0] rfl ⟨h1, trivial, trivial⟩ ?_
      have x3 : f_iw (r + 1) (rv M) k x i = x := by
        rw [f_iw]
        rw [if_pos k2]
      exact wend ⟨_, rfl, rfl, hx⟩ (congrArg (fun q => (some q, M)) x3.symm)
    · have k4 : ¬ ((nI k) ≤ (nI i)) := by
        have q : ¬ ((nI k) ≤ (nI i)) := h1
        exact q
      refine wgo (g' := (M, 10, [some (.inr (5, 24)), some (.inl (nI k)), some (.inl x), some (.inl (nI i))], [.inl x])) [oz 0, oz 0] rfl ⟨h1, trivial, trivial⟩ ?_
      by_cases h5 : x = 0
      · have k6 : x = 0 := by
          have q : x = 0 := h5
          exact q
        refine wgo (g' := (M, 31, [some (.inr (5, 24)), some (.inl (nI k)), some (.inl x), some (.inl (nI i))], [.inl ((M 29 k) / 10), .inl ((M 29 i) / 10)])) [oz 0, oz 0, oz 0, oz 0, oz i, oz 0, oz 0, oz 0, oz 0, oz 0, oz k, oz 0, oz 0] rfl ⟨(fun z => z h5), trivial, trivial, trivial, ⟨rfl, Nat.lt_of_lt_of_le (nI_sl rfl (by omega) hi k4) (Nat.le_of_lt hk)⟩, trivial, (by decide), trivial, trivial, trivial, ⟨rfl, hk⟩, trivial, (by decide), trivial⟩ ?_
        by_cases h7 : ((M 29 i) / 10) = ((M 29 k) / 10)
        · have k8 : ((((rv M)) 5 i) / 10) = ((((rv M)) 5 k) / 10) := by
            have q : (((rv M) 5 i) / 10) = (((rv M) 5 k) / 10) := h7
            exact q
          refine wgo (g' := (M, 4, [some (.inr (5, 24)), some (.inl (nI k)), some (.inl 1), some (.inl ((nI i) + 1))], [])) [oz 0, oz 0, oz 0, oz 0, oz 0, oz 0] rfl ⟨(fun z => z h7), trivial, trivial, Nat.le_of_ble_eq_true rfl, trivial, trivial, trivial⟩ ?_
          rw [nI_1 i]
          have x9 : f_iw (r + 1) (rv M) k x i = f_iw r ((rv M)) k 1 (i + 1) := by
            rw [f_iw]
            rw [if_neg k4, if_pos k6, if_pos k8]
          rw [x9]
          exact ih 1 (i + 1) (Or.inr rfl) (nI_sl rfl (by omega) hi k4) (by omega)
        · have k10 : ¬ (((((rv M)) 5 i) / 10) = ((((rv M)) 5 k) / 10)) := by
            have q : ¬ ((((rv M) 5 i) / 10) = (((rv M) 5 k) / 10)) := h7
            exact q
          refine wgo (g' := (M, 4, [some (.inr (5, 24)), some (.inl (nI k)), some (.inl 0), some (.inl ((nI i) + 1))], [])) [oz 1, oz 0, oz 0, oz 0, oz 0] rfl ⟨h7, trivial, Nat.le_of_ble_eq_true rfl, trivial, trivial, trivial⟩ ?_
          rw [nI_1 i]
          have x11 : f_iw (r + 1) (rv M) k x i = f_iw r ((rv M)) k 0 (i + 1) := by
            rw [f_iw]
            rw [if_neg k4, if_pos k6, if_neg k10]
          rw [x11]
          exact ih 0 (i + 1) (Or.inl rfl) (nI_sl rfl (by omega) hi k4) (by omega)
      · have k12 : ¬ (x = 0) := by
          have q : ¬ (x = 0) := h5
          exact q
        refine wgo (g' := (M, 4, [some (.inr (5, 24)), some (.inl (nI k)), some (.inl 1), some (.inl ((nI i) + 1))], [])) [oz 1, oz 0, oz 0, oz 0, oz 0, oz 0] rfl ⟨h5, trivial, trivial, Nat.le_of_ble_eq_true rfl, trivial, trivial, trivial⟩ ?_
        rw [nI_1 i]
        have x13 : f_iw (r + 1) (rv M) k x i = f_iw r ((rv M)) k 1 (i + 1) := by
          rw [f_iw]
          rw [if_neg k4, if_neg k12]
        rw [x13]
        exact ih 1 (i + 1) (Or.inr rfl) (nI_sl rfl (by omega) hi k4) (by omega)
def f_Mo_isInWay (A : mm_M) (k : Nat) : Int32 := (f_iw 6 (A) k 0 0)
set_option maxRecDepth 20000 in
set_option maxHeartbeats 1000000 in
theorem sm_Mo_isInWay {d : Nat} {M : mm_M} {k : Nat} (hk : k < 5) : ct_Sem (d + 1) 66 M [.inr (5, 24), .inl (nI k)] (some (f_Mo_isInWay (rv M) k), M) := by
  refine SM_of (Nat.le_of_ble_eq_true rfl) ?_
  show mm_Wp pg_Mo_isInWay rt_Mo_isInWay (ct_Sem (d + 0)) (M, 0, [some (.inr (5, 24)), some (.inl (nI k)), none, none], []) _
  refine wgo (g' := (M, 4, [some (.inr (5, 24)), some (.inl (nI k)), some (.inl 0), some (.inl 0)], [])) [oz 0, oz 0, oz 0, oz 0] rfl ⟨trivial, Nat.le_of_ble_eq_true rfl, trivial, Nat.le_of_ble_eq_true rfl, trivial⟩ ?_
  have x1 : f_Mo_isInWay (rv M) k = f_iw 6 ((rv M)) k 0 0 := by
    unfold f_Mo_isInWay
    rfl
  rw [x1]
  exact lp_iw (d := d)  (M := M) hk 6 0 0  (Or.inl rfl) (Nat.zero_le _) (by omega)
end
section
theorem dv10 {x : Int32} (h : okx 80 x) : x / 10 = nI (ix x / 10) := by
  have e := h.1
  rw [e, show (10 : Int32) = nI 10 from rfl, pk_div (by have := h.2; omega) (by decide) (by decide), ix_nI (by have := h.2; omega)]
theorem rm10 {x : Int32} (h : okx 80 x) : x - x / 10 * 10 = nI (ix x % 10) := by
  have e := h.1
  rw [e, show (10 : Int32) = nI 10 from rfl, pk_rem (by have := h.2; omega) (by decide) (by decide), ix_nI (by have := h.2; omega)]
theorem nI_sr {x y : Int32} {n i : Nat} (hx : x = nI n) (hn : n ≤ 3) (hy : y = nI (i % 10)) (h : ¬ x ≤ y) : i % 10 < n := by
  subst hx hy
  rcases Nat.lt_or_ge (i % 10) n with q | q
  · exact q
  · exact absurd (nI_le q (by omega)) h
def f_Mo_may (A : mm_M) (k : Nat) : Int32 := (if ((A) 0 1) ≤ (((A) 5 k) - ((A) 5 k) / 10 * 10) then 0 else (if (f_Mo_ofJob (A) (ix ((A) 5 k) / 10) 3) = 0 then (if (f_Mo_isInWay (A) k) = 0 then (if (f_Mo_reaches (A) (ix ((A) 5 k) % 10) (ix ((A) 5 k) / 10)) = 0 then 0 else 1) else 0) else 0))
set_option maxRecDepth 20000 in
set_option maxHeartbeats 1000000 in
theorem sm_Mo_may {d : Nat} {M : mm_M} {k : Nat} {n : Nat} (hk : k < 5) (hw : okx 80 (rv M 5 k)) (hn : rnn (rv M) n) : ct_Sem (d + 3) 67 M [.inr (5, 24), .inl (nI k)] (some (f_Mo_may (rv M) k), M) := by
  refine SM_of (Nat.le_of_ble_eq_true rfl) ?_
  show mm_Wp pg_Mo_may rt_Mo_may (ct_Sem (d + 2)) (M, 0, [some (.inr (5, 24)), some (.inl (nI k)), none, none], []) _
  refine wgo (g' := (M, 25, [some (.inr (5, 24)), some (.inl (nI k)), some (.inl ((M 29 k) / 10)), some (.inl ((M 29 k) - (M 29 k) / 10 * 10))], [.inl (M 24 1), .inl ((M 29 k) - (M 29 k) / 10 * 10)])) [oz 0, oz 0, oz 0, oz k, oz 0, oz 0, oz 0, oz 0, oz 0, oz 0, oz k, oz 0, oz 0, oz 0, oz 0, oz 0, oz 0] rfl ⟨trivial, trivial, trivial, ⟨rfl, (show k < 5 from by omega)⟩, trivial, (by decide), Nat.le_of_ble_eq_true rfl, trivial, trivial, trivial, ⟨rfl, (show k < 5 from by omega)⟩, trivial, (by decide), Nat.le_of_ble_eq_true rfl, trivial, trivial, trivial, trivial⟩ ?_
  by_cases h1 : (M 24 1) ≤ ((M 29 k) - (M 29 k) / 10 * 10)
  · have k2 : (((rv M)) 0 1) ≤ ((((rv M)) 5 k) - (((rv M)) 5 k) / 10 * 10) := by
      have q : ((rv M) 0 1) ≤ (((rv M) 5 k) - ((rv M) 5 k) / 10 * 10) := h1
      exact q
    refine wgo (g' := (M, 59, [some (.inr (5, 24)), some (.inl (nI k)), some (.inl ((M 29 k) / 10)), some (.inl ((M 29 k) - (M 29 k) / 10 * 10))], [.inl 0])) [oz 1, oz 0] rfl ⟨h1, trivial, trivial⟩ ?_
    have x3 : f_Mo_may (rv M) k = 0 := by
      unfold f_Mo_may
      rw [if_pos k2]
    exact wend ⟨_, rfl, rfl, Or.inl rfl⟩ (congrArg (fun q => (some q, M)) x3.symm)
  · have k4 : ¬ ((((rv M)) 0 1) ≤ ((((rv M)) 5 k) - (((rv M)) 5 k) / 10 * 10)) := by
      have q : ¬ (((rv M) 0 1) ≤ (((rv M) 5 k) - ((rv M) 5 k) / 10 * 10)) := h1
      exact q
    refine wgo (g' := (M, 31, [some (.inr (5, 24)), some (.inl (nI k)), some (.inl ((M 29 k) / 10)), some (.inl ((M 29 k) - (M 29 k) / 10 * 10))], [.inl 3, .inl ((M 29 k) / 10), .inr (5, 24)])) [oz 0, oz 0, oz 0, oz 0] rfl ⟨h1, trivial, trivial, trivial, trivial⟩ ?_
    have s5 := sm_Mo_ofJob (d := d + 1)  (M := M) (j := ix (M 29 k) / 10) (w := 3) (by have q : ix (M 29 k) < 80 := hw.2; omega)
    rw [← (dv10 (show okx 80 (M 29 k) from hw))] at s5
    refine wgo (g' := (M, 34, [some (.inr (5, 24)), some (.inl (nI k)), some (.inl ((M 29 k) / 10)), some (.inl ((M 29 k) - (M 29 k) / 10 * 10))], [.inl (f_Mo_ofJob (rv M) (ix (M 29 k) / 10) 3)])) [oc (some (f_Mo_ofJob (rv M) (ix (M 29 k) / 10) 3), M)] rfl ⟨⟨s5, Nat.le_of_ble_eq_true rfl, Nat.le_of_ble_eq_true rfl, ⟨_, rfl⟩⟩, trivial⟩ ?_
    by_cases h6 : (f_Mo_ofJob (rv M) (ix (M 29 k) / 10) 3) = 0
    · have k7 : (f_Mo_ofJob ((rv M)) (ix (((rv M)) 5 k) / 10) 3) = 0 := by
        have q : (f_Mo_ofJob (rv M) (ix ((rv M) 5 k) / 10) 3) = 0 := h6
        exact q
      refine wgo (g' := (M, 39, [some (.inr (5, 24)), some (.inl (nI k)), some (.inl ((M 29 k) / 10)), some (.inl ((M 29 k) - (M 29 k) / 10 * 10))], [.inl (nI k), .inr (5, 24)])) [oz 0, oz 0, oz 0] rfl ⟨(fun z => z h6), trivial, trivial, trivial⟩ ?_
      have s8 := sm_Mo_isInWay (d := d + 1)  (M := M) (k := k) hk
      refine wgo (g' := (M, 42, [some (.inr (5, 24)), some (.inl (nI k)), some (.inl ((M 29 k) / 10)), some (.inl ((M 29 k) - (M 29 k) / 10 * 10))], [.inl (f_Mo_isInWay (rv M) k)])) [oc (some (f_Mo_isInWay (rv M) k), M)] rfl ⟨⟨s8, Nat.le_of_ble_eq_true rfl, Nat.le_of_ble_eq_true rfl, ⟨_, rfl⟩⟩, trivial⟩ ?_
      by_cases h9 : (f_Mo_isInWay (rv M) k) = 0
      · have k10 : (f_Mo_isInWay ((rv M)) k) = 0 := by
          have q : (f_Mo_isInWay (rv M) k) = 0 := h9
          exact q
        refine wgo (g' := (M, 48, [some (.inr (5, 24)), some (.inl (nI k)), some (.inl ((M 29 k) / 10)), some (.inl ((M 29 k) - (M 29 k) / 10 * 10))], [.inl ((M 29 k) / 10), .inl ((M 29 k) - (M 29 k) / 10 * 10), .inr (5, 24)])) [oz 0, oz 0, oz 0, oz 0] rfl ⟨(fun z => z h9), trivial, trivial, trivial, trivial⟩ ?_
        have s11 := sm_Mo_reaches (d := d)  (M := M) (c := ix (M 29 k) % 10) (j := ix (M 29 k) / 10) (Nat.lt_of_lt_of_le (nI_sr hn.1 hn.2 (rm10 hw) k4) hn.2) (by have q : ix (M 29 k) < 80 := hw.2; omega)
        rw [← (rm10 (show okx 80 (M 29 k) from hw))] at s11
        rw [← (dv10 (show okx 80 (M 29 k) from hw))] at s11
        refine wgo (g' := (M, 51, [some (.inr (5, 24)), some (.inl (nI k)), some (.inl ((M 29 k) / 10)), some (.inl ((M 29 k) - (M 29 k) / 10 * 10))], [.inl (f_Mo_reaches (rv M) (ix (M 29 k) % 10) (ix (M 29 k) / 10))])) [oc (some (f_Mo_reaches (rv M) (ix (M 29 k) % 10) (ix (M 29 k) / 10)), M)] rfl ⟨⟨s11, Nat.le_of_ble_eq_true rfl, Nat.le_of_ble_eq_true rfl, ⟨_, rfl⟩⟩, trivial⟩ ?_
        by_cases h12 : (f_Mo_reaches (rv M) (ix (M 29 k) % 10) (ix (M 29 k) / 10)) = 0
        · have k13 : (f_Mo_reaches ((rv M)) (ix (((rv M)) 5 k) % 10) (ix (((rv M)) 5 k) / 10)) = 0 := by
            have q : (f_Mo_reaches (rv M) (ix ((rv M) 5 k) % 10) (ix ((rv M) 5 k) / 10)) = 0 := h12
            exact q
          refine wgo (g' := (M, 59, [some (.inr (5, 24)), some (.inl (nI k)), some (.inl ((M 29 k) / 10)), some (.inl ((M 29 k) - (M 29 k) / 10 * 10))], [.inl 0])) [oz 1, oz 0] rfl ⟨h12, trivial, trivial⟩ ?_
          have x14 : f_Mo_may (rv M) k = 0 := by
            unfold f_Mo_may
            rw [if_neg k4, if_pos k7, if_pos k10, if_pos k13]
          exact wend ⟨_, rfl, rfl, Or.inl rfl⟩ (congrArg (fun q => (some q, M)) x14.symm)
        · have k15 : ¬ ((f_Mo_reaches ((rv M)) (ix (((rv M)) 5 k) % 10) (ix (((rv M)) 5 k) / 10)) = 0) := by
            have q : ¬ ((f_Mo_reaches (rv M) (ix ((rv M) 5 k) % 10) (ix ((rv M) 5 k) / 10)) = 0) := h12
            exact q
          refine wgo (g' := (M, 59, [some (.inr (5, 24)), some (.inl (nI k)), some (.inl ((M 29 k) / 10)), some (.inl ((M 29 k) - (M 29 k) / 10 * 10))], [.inl 1])) [oz 0, oz 0, oz 0] rfl ⟨h12, trivial, trivial, trivial⟩ ?_
          have x16 : f_Mo_may (rv M) k = 1 := by
            unfold f_Mo_may
            rw [if_neg k4, if_pos k7, if_pos k10, if_neg k15]
          exact wend ⟨_, rfl, rfl, Or.inr rfl⟩ (congrArg (fun q => (some q, M)) x16.symm)
      · have k17 : ¬ ((f_Mo_isInWay ((rv M)) k) = 0) := by
          have q : ¬ ((f_Mo_isInWay (rv M) k) = 0) := h9
          exact q
        refine wgo (g' := (M, 59, [some (.inr (5, 24)), some (.inl (nI k)), some (.inl ((M 29 k) / 10)), some (.inl ((M 29 k) - (M 29 k) / 10 * 10))], [.inl 0])) [oz 1, oz 0] rfl ⟨h9, trivial, trivial⟩ ?_
        have x18 : f_Mo_may (rv M) k = 0 := by
          unfold f_Mo_may
          rw [if_neg k4, if_pos k7, if_neg k17]
        exact wend ⟨_, rfl, rfl, Or.inl rfl⟩ (congrArg (fun q => (some q, M)) x18.symm)
    · have k19 : ¬ ((f_Mo_ofJob ((rv M)) (ix (((rv M)) 5 k) / 10) 3) = 0) := by
        have q : ¬ ((f_Mo_ofJob (rv M) (ix ((rv M) 5 k) / 10) 3) = 0) := h6
        exact q
      refine wgo (g' := (M, 59, [some (.inr (5, 24)), some (.inl (nI k)), some (.inl ((M 29 k) / 10)), some (.inl ((M 29 k) - (M 29 k) / 10 * 10))], [.inl 0])) [oz 1, oz 0] rfl ⟨h6, trivial, trivial⟩ ?_
      have x20 : f_Mo_may (rv M) k = 0 := by
        unfold f_Mo_may
        rw [if_neg k4, if_neg k19]
      exact wend ⟨_, rfl, rfl, Or.inl rfl⟩ (congrArg (fun q => (some q, M)) x20.symm)
def f_so4 : Nat → mm_M → Int32 → Int32 → Int32 → Int32 → Nat → Int32 × mm_M
  | 0, A, _, _, _, _, _ => (0, A)
  | r + 1, A, m, t, x, y, i => (if 110 ≤ (nI i) then (if y = 0 then ((-1), A) else (x, A)) else (f_so4 r (mm_up (A) 3 i ((A) 4 i)) m t x y (i + 1)))
set_option maxRecDepth 20000 in
set_option maxHeartbeats 1000000 in
theorem lp_so4 {d : Nat} {M : mm_M} {m : Int32} {t : Int32} {x : Int32} {y : Int32}    : ∀ (r : Nat) (A : mm_M) (Mz : mm_M) (i : Nat), rv Mz = A → rf M Mz → (i ≤ 110) → (110 < i + r) → mm_Wp pg_Mo_secondsOf rt_Mo_secondsOf (ct_Sem (d + 0)) (Mz, 94, [some (.inr (5, 24)), some (.inl m), some (.inl t), some (.inl x), some (.inl y), some (.inl (nI i))], []) (rQ M (some (f_so4 r A m t x y i).1) (f_so4 r A m t x y i).2) := by
  intro r
  induction r with
  | zero =>
    intro A Mz i hA hf hi hr
    exfalso; omega
  | succ r ih =>
    intro A Mz i hA hf hi hr
    refine wgo (g' := (Mz, 98, [some (.inr (5, 24)), some (.inl m), some (.inl t), some (.inl x), some (.inl y), some (.inl (nI i))], [.inl 110, .inl (nI i)])) [oz 0, oz 0] rfl ⟨trivial, trivial, trivial⟩ ?_
    by_cases h1 : 110 ≤ (nI i)
    · have k2 : 110 ≤ (nI i) := by
        have q : 110 ≤ (nI i) := h1
        first | exact q | (simp only [hA] at q; exact q)
      refine wgo (g' := (Mz, 123, [some (.inr (5, 24)), some (.inl m), some (.inl t), some (.inl x), some (.inl y), some (.inl (nI i))], [.inl y])) [oz 1, oz 0] rfl ⟨h1, trivial, trivial⟩ ?_
      by_cases h3 : y = 0
      · have k4 : y = 0 := by
          have q : y = 0 := h3
          first | exact q | (simp only [hA] at q; exact q)
        refine wgo (g' := (Mz, 131, [some (.inr (5, 24)), some (.inl m), some (.inl t), some (.inl x), some (.inl y), some (.inl (nI i))], [.inl ((-1))])) [oz 1, oz 0] rfl ⟨h3, trivial, trivial⟩ ?_
        have x5 : f_so4 (r + 1) A m t x y i = ((-1), A) := by
          rw [f_so4]
          rw [if_pos k2, if_pos k4]
        exact wend ⟨_, rfl, rfl⟩ ⟨congrArg some ((show ((-1) : Int32) = (-1) from by first | rfl | simp only [hA]).trans (congrArg Prod.fst x5).symm), hA.trans (congrArg Prod.snd x5).symm, hf⟩
      · have k6 : ¬ (y = 0) := by
          have q : ¬ (y = 0) := h3
          first | exact q | (simp only [hA] at q; exact q)
        refine wgo (g' := (Mz, 131, [some (.inr (5, 24)), some (.inl m), some (.inl t), some (.inl x), some (.inl y), some (.inl (nI i))], [.inl x])) [oz 0, oz 0, oz 0] rfl ⟨h3, trivial, trivial, trivial⟩ ?_
        have x7 : f_so4 (r + 1) A m t x y i = (x, A) := by
          rw [f_so4]
          rw [if_pos k2, if_neg k6]
        exact wend ⟨_, rfl, rfl⟩ ⟨congrArg some ((show (x : Int32) = x from by first | rfl | simp only [hA]).trans (congrArg Prod.fst x7).symm), hA.trans (congrArg Prod.snd x7).symm, hf⟩
    · have k8 : ¬ (110 ≤ (nI i)) := by
        have q : ¬ (110 ≤ (nI i)) := h1
        first | exact q | (simp only [hA] at q; exact q)
      refine wgo (g' := (mm_up Mz 27 i (Mz 28 i), 115, [some (.inr (5, 24)), some (.inl m), some (.inl t), some (.inl x), some (.inl y), some (.inl (nI i))], [])) [oz 0, oz 0, oz 0, oz 0, oz 0, oz 0, oz 0, oz i, oz i] rfl ⟨h1, trivial, trivial, trivial, trivial, trivial, trivial, ⟨rfl, nI_sl (n := 110) rfl (by decide) hi k8⟩, ⟨rfl, nI_sl (n := 110) rfl (by decide) hi k8⟩, trivial⟩ ?_
      generalize e10 : mm_up Mz 27 i (Mz 28 i) = M9
      have a11 : rv M9 = mm_up (A) 3 i ((A) 4 i) := by
        rw [← e10]
        refine (rv_up 3).trans ?_
        show mm_up ((rv Mz)) 3 i ((rv Mz) 4 i) = _
        first | rfl | simp only [hA]
      have w12 : rf M M9 := by rw [← e10]; exact rf_up hf (by decide)
      refine wgo (g' := (M9, 94, [some (.inr (5, 24)), some (.inl m), some (.inl t), some (.inl x), some (.inl y), some (.inl ((nI i) + 1))], [])) [oz 0, oz 0] rfl ⟨trivial, trivial, trivial⟩ ?_
      rw [nI_1 i]
      have x13 : f_so4 (r + 1) A m t x y i = f_so4 r (mm_up (A) 3 i ((A) 4 i)) m t x y (i + 1) := by
        rw [f_so4]
        rw [if_neg k8]
      rw [x13]
      exact ih _ M9 (i + 1) a11 w12 (nI_sl (n := 110) rfl (by decide) hi k8) (by omega)
def f_so3 : Nat → mm_M → Int32 → Nat → Nat → Int32 × mm_M
  | 0, A, _, _, _ => (0, A)
  | r + 1, A, m, t, i => (if (nI t) ≤ (nI i) then (f_so4 111 (A) m (nI t) (nI i) (f_Mo_isAllDone (A) ) 0) else (if (f_Mo_isAllDone (A) ) = 0 then (f_so3 r ((f_Mo_secondOfAll (A) ).2) m t (i + 1)) else (f_so4 111 (A) m (nI t) (nI i) (f_Mo_isAllDone (A) ) 0)))
set_option maxRecDepth 20000 in
set_option maxHeartbeats 1000000 in
theorem lp_so3 {d : Nat} {M : mm_M} {m : Int32} {t : Nat}   {n : Nat} {I : mm_M → Prop} {j : Nat} (hn3 : n ≤ 3) (hI0 : ∀ X, I X → X 0 1 = nI n) (hI1 : ∀ X i, I X → i < n → rone X n i) (hI2 : ∀ X i, I X → i < n → I (f_Mo_second X i).2) (hI3 : ∀ X, I X → I (f_Mo_secondOfAll X).2) (hI4 : ∀ X, I X → X 0 5 = nI j) (hj8 : j ≤ 8) : ∀ (r : Nat) (A : mm_M) (Mz : mm_M) (i : Nat), rv Mz = A → rf M Mz → (I A) → (i ≤ t) → (t ≤ 300) → (t < i + r) → mm_Wp pg_Mo_secondsOf rt_Mo_secondsOf (ct_Sem (d + 5)) (Mz, 63, [some (.inr (5, 24)), some (.inl m), some (.inl (nI t)), some (.inl (nI i)), none, none], []) (rQ M (some (f_so3 r A m t i).1) (f_so3 r A m t i).2) := by
  intro r
  induction r with
  | zero =>
    intro A Mz i hA hf hI hi ht hr
    exfalso; omega
  | succ r ih =>
    intro A Mz i hA hf hI hi ht hr
    refine wgo (g' := (Mz, 65, [some (.inr (5, 24)), some (.inl m), some (.inl (nI t)), some (.inl (nI i)), none, none], [.inl (nI t), .inl (nI i)])) [oz 0, oz 0] rfl ⟨trivial, trivial, trivial⟩ ?_
    by_cases h1 : (nI t) ≤ (nI i)
    · have k2 : (nI t) ≤ (nI i) := by
        have q : (nI t) ≤ (nI i) := h1
        first | exact q | (simp only [hA] at q; exact q)
      refine wgo (g' := (Mz, 86, [some (.inr (5, 24)), some (.inl m), some (.inl (nI t)), some (.inl (nI i)), none, none], [.inr (5, 24)])) [oz 1, oz 0] rfl ⟨h1, trivial, trivial⟩ ?_
      have s3 := sm_Mo_isAllDone (d := d + 3)  (M := Mz)  (by rw [hA]; exact hI4 _ hI) hj8
      refine wgo (g' := (Mz, 94, [some (.inr (5, 24)), some (.inl m), some (.inl (nI t)), some (.inl (nI i)), some (.inl (f_Mo_isAllDone (rv Mz) )), some (.inl 0)], [])) [oc (some (f_Mo_isAllDone (rv Mz) ), Mz), oz 0, oz 0, oz 0] rfl ⟨⟨s3, Nat.le_of_ble_eq_true rfl, Nat.le_of_ble_eq_true rfl, ⟨_, rfl⟩⟩, Nat.le_of_ble_eq_true rfl, trivial, Nat.le_of_ble_eq_true rfl, trivial⟩ ?_
      have x4 : f_so3 (r + 1) A m t i = f_so4 111 (A) m (nI t) (nI i) (f_Mo_isAllDone (A) ) 0 := by
        rw [f_so3]
        rw [if_pos k2]
      rw [x4]
      have q5 := lp_so4 (d := d + 5)  (M := M) (m := m) (t := nI t) (x := nI i) (y := f_Mo_isAllDone (rv Mz) )   111 _ Mz 0  hA hf (Nat.zero_le _) (by omega)
      have z6 : f_so4 111 (A) m (nI t) (nI i) (f_Mo_isAllDone (rv Mz) ) 0 = f_so4 111 (A) m (nI t) (nI i) (f_Mo_isAllDone (A) ) 0 := by simp only [hA]
      rw [z6] at q5
      exact q5
    · have k7 : ¬ ((nI t) ≤ (nI i)) := by
        have q : ¬ ((nI t) ≤ (nI i)) := h1
        first | exact q | (simp only [hA] at q; exact q)
      refine wgo (g' := (Mz, 69, [some (.inr (5, 24)), some (.inl m), some (.inl (nI t)), some (.inl (nI i)), none, none], [.inr (5, 24)])) [oz 0, oz 0] rfl ⟨h1, trivial, trivial⟩ ?_
      have s8 := sm_Mo_isAllDone (d := d + 3)  (M := Mz)  (by rw [hA]; exact hI4 _ hI) hj8
      refine wgo (g' := (Mz, 72, [some (.inr (5, 24)), some (.inl m), some (.inl (nI t)), some (.inl (nI i)), none, none], [.inl (f_Mo_isAllDone (rv Mz) )])) [oc (some (f_Mo_isAllDone (rv Mz) ), Mz)] rfl ⟨⟨s8, Nat.le_of_ble_eq_true rfl, Nat.le_of_ble_eq_true rfl, ⟨_, rfl⟩⟩, trivial⟩ ?_
      by_cases h9 : (f_Mo_isAllDone (rv Mz) ) = 0
      · have k10 : (f_Mo_isAllDone (A) ) = 0 := by
          have q : (f_Mo_isAllDone (rv Mz) ) = 0 := h9
          first | exact q | (simp only [hA] at q; exact q)
        refine wgo (g' := (Mz, 76, [some (.inr (5, 24)), some (.inl m), some (.inl (nI t)), some (.inl (nI i)), none, none], [.inr (5, 24)])) [oz 0, oz 0] rfl ⟨(fun z => z h9), trivial, trivial⟩ ?_
        obtain ⟨M11, s12, a13, w14⟩ := rs_Mo_secondOfAll (d := d)  (M := Mz)   hn3 hI0 hI1 hI2 (by rw [hA]; exact hI)
        have a13 : rv M11 = (f_Mo_secondOfAll (A) ).2 := a13.trans (show (f_Mo_secondOfAll ((rv Mz)) ).2 = _ from by first | rfl | simp only [hA])
        have w14 : rf M M11 := rf_tr hf w14
        refine wgo (g' := (M11, 63, [some (.inr (5, 24)), some (.inl m), some (.inl (nI t)), some (.inl ((nI i) + 1)), none, none], [])) [oc (none, M11), oz 0, oz 0] rfl ⟨⟨s12, Nat.le_of_ble_eq_true rfl, Nat.le_of_ble_eq_true rfl, ⟨_, rfl⟩⟩, trivial, trivial, trivial⟩ ?_
        rw [nI_1 i]
        have x15 : f_so3 (r + 1) A m t i = f_so3 r ((f_Mo_secondOfAll (A) ).2) m t (i + 1) := by
          rw [f_so3]
          rw [if_neg k7, if_pos k10]
        rw [x15]
        exact ih _ M11 (i + 1) a13 w14 (hI3 _ hI) (nI_sl rfl (by omega) hi k7) ht (by omega)
      · have k16 : ¬ ((f_Mo_isAllDone (A) ) = 0) := by
          have q : ¬ ((f_Mo_isAllDone (rv Mz) ) = 0) := h9
          first | exact q | (simp only [hA] at q; exact q)
        refine wgo (g' := (Mz, 86, [some (.inr (5, 24)), some (.inl m), some (.inl (nI t)), some (.inl (nI i)), none, none], [.inr (5, 24)])) [oz 1, oz 0] rfl ⟨h9, trivial, trivial⟩ ?_
        have s17 := sm_Mo_isAllDone (d := d + 3)  (M := Mz)  (by rw [hA]; exact hI4 _ hI) hj8
        refine wgo (g' := (Mz, 94, [some (.inr (5, 24)), some (.inl m), some (.inl (nI t)), some (.inl (nI i)), some (.inl (f_Mo_isAllDone (rv Mz) )), some (.inl 0)], [])) [oc (some (f_Mo_isAllDone (rv Mz) ), Mz), oz 0, oz 0, oz 0] rfl ⟨⟨s17, Nat.le_of_ble_eq_true rfl, Nat.le_of_ble_eq_true rfl, ⟨_, rfl⟩⟩, Nat.le_of_ble_eq_true rfl, trivial, Nat.le_of_ble_eq_true rfl, trivial⟩ ?_
        have x18 : f_so3 (r + 1) A m t i = f_so4 111 (A) m (nI t) (nI i) (f_Mo_isAllDone (A) ) 0 := by
          rw [f_so3]
          rw [if_neg k7, if_neg k16]
        rw [x18]
        have q19 := lp_so4 (d := d + 5)  (M := M) (m := m) (t := nI t) (x := nI i) (y := f_Mo_isAllDone (rv Mz) )   111 _ Mz 0  hA hf (Nat.zero_le _) (by omega)
        have z20 : f_so4 111 (A) m (nI t) (nI i) (f_Mo_isAllDone (rv Mz) ) 0 = f_so4 111 (A) m (nI t) (nI i) (f_Mo_isAllDone (A) ) 0 := by simp only [hA]
        rw [z20] at q19
        exact q19
end
section
theorem so_end {P : Nat → mm_M → Prop} {i m : Nat} {X : mm_M} (h : P i X) (hc : nI m ≤ nI i) (hi : i ≤ m) (hm : m < 2 ^ 31 := by omega) : P m X := by
  have e : i = m := by
    have := (nI_leI hm (by omega)).mp hc
    omega
  rw [← e]; exact h
def f_so2 : Nat → mm_M → Nat → Nat → Nat → Int32 × mm_M
  | 0, A, _, _, _ => (0, A)
  | r + 1, A, m, t, i => (if (nI m) ≤ (nI i) then (f_so3 301 (A) (nI m) t 0) else (f_so2 r ((f_Mo_giveTo (A) (ix ((A) 5 i) / 10) (ix ((A) 5 i) % 10)).2) m t (i + 1)))
set_option maxRecDepth 20000 in
set_option maxHeartbeats 1000000 in
theorem lp_so2 {d : Nat} {M : mm_M} {m : Nat} {t : Nat}   {n : Nat} {I : mm_M → Prop} {j : Nat} (hn3 : n ≤ 3) (hI0 : ∀ X, I X → X 0 1 = nI n) (hI1 : ∀ X i, I X → i < n → rone X n i) (hI2 : ∀ X i, I X → i < n → I (f_Mo_second X i).2) (hI3 : ∀ X, I X → I (f_Mo_secondOfAll X).2) (hI4 : ∀ X, I X → X 0 5 = nI j) (hj8 : j ≤ 8){P : Nat → mm_M → Prop} (hP2 : ∀ i X, P i X → i < m → P (i + 1) (f_Mo_giveTo X (ix (X 5 i) / 10) (ix (X 5 i) % 10)).2) (hP3 : ∀ X, P m X → I X) (hP5 : ∀ i X, P i X → i < m → okx 80 (X 5 i)) (hm : m ≤ 4) (ht : t ≤ 300) : ∀ (r : Nat) (A : mm_M) (Mz : mm_M) (i : Nat), rv Mz = A → rf M Mz → (P i A) → (i ≤ m) → (m < i + r) → mm_Wp pg_Mo_secondsOf rt_Mo_secondsOf (ct_Sem (d + 5)) (Mz, 28, [some (.inr (5, 24)), some (.inl (nI m)), some (.inl (nI t)), some (.inl (nI i)), none, none], []) (rQ M (some (f_so2 r A m t i).1) (f_so2 r A m t i).2) := by
  intro r
  induction r with
  | zero =>
    intro A Mz i hA hf hP hi hr
    exfalso; omega
  | succ r ih =>
    intro A Mz i hA hf hP hi hr
    refine wgo (g' := (Mz, 30, [some (.inr (5, 24)), some (.inl (nI m)), some (.inl (nI t)), some (.inl (nI i)), none, none], [.inl (nI m), .inl (nI i)])) [oz 0, oz 0] rfl ⟨trivial, trivial, trivial⟩ ?_
    by_cases h1 : (nI m) ≤ (nI i)
    · have k2 : (nI m) ≤ (nI i) := by
        have q : (nI m) ≤ (nI i) := h1
        first | exact q | (simp only [hA] at q; exact q)
      refine wgo (g' := (Mz, 63, [some (.inr (5, 24)), some (.inl (nI m)), some (.inl (nI t)), some (.inl 0), none, none], [])) [oz 1, oz 0, oz 0] rfl ⟨h1, trivial, Nat.le_of_ble_eq_true rfl, trivial⟩ ?_
      have x3 : f_so2 (r + 1) A m t i = f_so3 301 (A) (nI m) t 0 := by
        rw [f_so2]
        rw [if_pos k2]
      rw [x3]
      exact lp_so3 (d := d)  (M := M) (m := nI m) (t := t)  hn3 hI0 hI1 hI2 hI3 hI4 hj8 301 _ Mz 0  hA hf (hP3 _ (so_end hP k2 hi)) (Nat.zero_le _) ht (by omega)
    · have k4 : ¬ ((nI m) ≤ (nI i)) := by
        have q : ¬ ((nI m) ≤ (nI i)) := h1
        first | exact q | (simp only [hA] at q; exact q)
      refine wgo (g' := (Mz, 52, [some (.inr (5, 24)), some (.inl (nI m)), some (.inl (nI t)), some (.inl (nI i)), none, none], [.inl ((Mz 29 i) - (Mz 29 i) / 10 * 10), .inl ((Mz 29 i) / 10), .inr (5, 24)])) [oz 0, oz 0, oz 0, oz 0, oz 0, oz i, oz 0, oz 0, oz 0, oz 0, oz 0, oz i, oz 0, oz 0] rfl ⟨h1, trivial, trivial, trivial, trivial, ⟨rfl, (show i < 5 from by have q := (nI_sl (n := m) rfl (by omega) hi k4); omega)⟩, trivial, (by decide), trivial, trivial, trivial, ⟨rfl, (show i < 5 from by have q := (nI_sl (n := m) rfl (by omega) hi k4); omega)⟩, trivial, (by decide), trivial⟩ ?_
      obtain ⟨M5, s6, a7, w8⟩ := rs_Mo_giveTo (d := d + 3)  (M := Mz) (j := ix (Mz 29 i) / 10) (c := ix (Mz 29 i) % 10)  (by have q := (show okx 80 (Mz 29 i) from (show okx 80 (rv Mz 5 i) from by rw [hA]; exact hP5 _ _ hP (nI_sl (n := m) rfl (by omega) hi k4))).2; omega)
      rw [← (dv10 (show okx 80 (Mz 29 i) from (show okx 80 (rv Mz 5 i) from by rw [hA]; exact hP5 _ _ hP (nI_sl (n := m) rfl (by omega) hi k4))))] at s6
      rw [← (rm10 (show okx 80 (Mz 29 i) from (show okx 80 (rv Mz 5 i) from by rw [hA]; exact hP5 _ _ hP (nI_sl (n := m) rfl (by omega) hi k4))))] at s6
      have a7 : rv M5 = (f_Mo_giveTo (A) (ix ((A) 5 i) / 10) (ix ((A) 5 i) % 10)).2 := a7.trans (show (f_Mo_giveTo ((rv Mz)) (ix ((rv Mz) 5 i) / 10) (ix ((rv Mz) 5 i) % 10)).2 = _ from by first | rfl | simp only [hA])
      have w8 : rf M M5 := rf_tr hf w8
      refine wgo (g' := (M5, 28, [some (.inr (5, 24)), some (.inl (nI m)), some (.inl (nI t)), some (.inl ((nI i) + 1)), none, none], [])) [oc (none, M5), oz 0, oz 0] rfl ⟨⟨s6, Nat.le_of_ble_eq_true rfl, Nat.le_of_ble_eq_true rfl, ⟨_, rfl⟩⟩, trivial, trivial, trivial⟩ ?_
      rw [nI_1 i]
      have x9 : f_so2 (r + 1) A m t i = f_so2 r ((f_Mo_giveTo (A) (ix ((A) 5 i) / 10) (ix ((A) 5 i) % 10)).2) m t (i + 1) := by
        rw [f_so2]
        rw [if_neg k4]
      rw [x9]
      exact ih _ M5 (i + 1) a7 w8 (hP2 _ _ hP (nI_sl (n := m) rfl (by omega) hi k4)) (nI_sl (n := m) rfl (by omega) hi k4) (by omega)
def f_so1 : Nat → mm_M → Nat → Nat → Nat → Int32 × mm_M
  | 0, A, _, _, _ => (0, A)
  | r + 1, A, m, t, i => (if 110 ≤ (nI i) then (f_so2 5 (A) m t 0) else (f_so1 r (mm_up (A) 4 i ((A) 3 i)) m t (i + 1)))
set_option maxRecDepth 20000 in
set_option maxHeartbeats 1000000 in
theorem lp_so1 {d : Nat} {M : mm_M} {m : Nat} {t : Nat}   {n : Nat} {I : mm_M → Prop} {j : Nat} (hn3 : n ≤ 3) (hI0 : ∀ X, I X → X 0 1 = nI n) (hI1 : ∀ X i, I X → i < n → rone X n i) (hI2 : ∀ X i, I X → i < n → I (f_Mo_second X i).2) (hI3 : ∀ X, I X → I (f_Mo_secondOfAll X).2) (hI4 : ∀ X, I X → X 0 5 = nI j) (hj8 : j ≤ 8){P : Nat → mm_M → Prop} (hP2 : ∀ i X, P i X → i < m → P (i + 1) (f_Mo_giveTo X (ix (X 5 i) / 10) (ix (X 5 i) % 10)).2) (hP3 : ∀ X, P m X → I X) (hP5 : ∀ i X, P i X → i < m → okx 80 (X 5 i)) (hm : m ≤ 4) (ht : t ≤ 300){K : Nat → mm_M → Prop} (hK2 : ∀ i X, K i X → i < 110 → K (i + 1) (mm_up X 4 i (X 3 i))) (hK3 : ∀ X, K 110 X → P 0 X) : ∀ (r : Nat) (A : mm_M) (Mz : mm_M) (i : Nat), rv Mz = A → rf M Mz → (K i A) → (i ≤ 110) → (110 < i + r) → mm_Wp pg_Mo_secondsOf rt_Mo_secondsOf (ct_Sem (d + 5)) (Mz, 2, [some (.inr (5, 24)), some (.inl (nI m)), some (.inl (nI t)), some (.inl (nI i)), none, none], []) (rQ M (some (f_so1 r A m t i).1) (f_so1 r A m t i).2) := by
  intro r
  induction r with
  | zero =>
    intro A Mz i hA hf hK hi hr
    exfalso; omega
  | succ r ih =>
    intro A Mz i hA hf hK hi hr
    refine wgo (g' := (Mz, 5, [some (.inr (5, 24)), some (.inl (nI m)), some (.inl (nI t)), some (.inl (nI i)), none, none], [.inl 110, .inl (nI i)])) [oz 0, oz 0] rfl ⟨trivial, trivial, trivial⟩ ?_
    by_cases h1 : 110 ≤ (nI i)
    · have k2 : 110 ≤ (nI i) := by
        have q : 110 ≤ (nI i) := h1
        first | exact q | (simp only [hA] at q; exact q)
      refine wgo (g' := (Mz, 28, [some (.inr (5, 24)), some (.inl (nI m)), some (.inl (nI t)), some (.inl 0), none, none], [])) [oz 1, oz 0, oz 0] rfl ⟨h1, trivial, Nat.le_of_ble_eq_true rfl, trivial⟩ ?_
      have x3 : f_so1 (r + 1) A m t i = f_so2 5 (A) m t 0 := by
        rw [f_so1]
        rw [if_pos k2]
      rw [x3]
      exact lp_so2 (d := d)  (M := M) (m := m) (t := t)  hn3 hI0 hI1 hI2 hI3 hI4 hj8 hP2 hP3 hP5 hm ht 5 _ Mz 0  hA hf (hK3 _ (so_end (m := 110) hK k2 hi)) (Nat.zero_le _) (by omega)
    · have k4 : ¬ (110 ≤ (nI i)) := by
        have q : ¬ (110 ≤ (nI i)) := h1
        first | exact q | (simp only [hA] at q; exact q)
      refine wgo (g' := (mm_up Mz 28 i (Mz 27 i), 20, [some (.inr (5, 24)), some (.inl (nI m)), some (.inl (nI t)), some (.inl (nI i)), none, none], [])) [oz 0, oz 0, oz 0, oz 0, oz 0, oz 0, oz 0, oz i, oz i] rfl ⟨h1, trivial, trivial, trivial, trivial, trivial, trivial, ⟨rfl, nI_sl (n := 110) rfl (by decide) hi k4⟩, ⟨rfl, nI_sl (n := 110) rfl (by decide) hi k4⟩, trivial⟩ ?_
      generalize e6 : mm_up Mz 28 i (Mz 27 i) = M5
      have a7 : rv M5 = mm_up (A) 4 i ((A) 3 i) := by
        rw [← e6]
        refine (rv_up 4).trans ?_
        show mm_up ((rv Mz)) 4 i ((rv Mz) 3 i) = _
        first | rfl | simp only [hA]
      have w8 : rf M M5 := by rw [← e6]; exact rf_up hf (by decide)
      refine wgo (g' := (M5, 2, [some (.inr (5, 24)), some (.inl (nI m)), some (.inl (nI t)), some (.inl ((nI i) + 1)), none, none], [])) [oz 0, oz 0] rfl ⟨trivial, trivial, trivial⟩ ?_
      rw [nI_1 i]
      have x9 : f_so1 (r + 1) A m t i = f_so1 r (mm_up (A) 4 i ((A) 3 i)) m t (i + 1) := by
        rw [f_so1]
        rw [if_neg k4]
      rw [x9]
      exact ih _ M5 (i + 1) a7 w8 (hK2 _ _ hK (nI_sl (n := 110) rfl (by decide) hi k4)) (nI_sl (n := 110) rfl (by decide) hi k4) (by omega)
def f_Mo_secondsOf (A : mm_M) (m : Nat) (t : Nat) : Int32 × mm_M := (f_so1 111 (A) m t 0)
set_option maxRecDepth 20000 in
set_option maxHeartbeats 1000000 in
theorem rs_Mo_secondsOf {d : Nat} {M : mm_M} {m : Nat} {t : Nat}  {n : Nat} {I : mm_M → Prop} {j : Nat} (hn3 : n ≤ 3) (hI0 : ∀ X, I X → X 0 1 = nI n) (hI1 : ∀ X i, I X → i < n → rone X n i) (hI2 : ∀ X i, I X → i < n → I (f_Mo_second X i).2) (hI3 : ∀ X, I X → I (f_Mo_secondOfAll X).2) (hI4 : ∀ X, I X → X 0 5 = nI j) (hj8 : j ≤ 8){P : Nat → mm_M → Prop} (hP2 : ∀ i X, P i X → i < m → P (i + 1) (f_Mo_giveTo X (ix (X 5 i) / 10) (ix (X 5 i) % 10)).2) (hP3 : ∀ X, P m X → I X) (hP5 : ∀ i X, P i X → i < m → okx 80 (X 5 i)) (hm : m ≤ 4) (ht : t ≤ 300){K : Nat → mm_M → Prop} (hK2 : ∀ i X, K i X → i < 110 → K (i + 1) (mm_up X 4 i (X 3 i))) (hK3 : ∀ X, K 110 X → P 0 X) (hK : K 0 (rv M)) : RS (d + 6) 65  M [.inr (5, 24), .inl (nI m), .inl (nI t)] (some (f_Mo_secondsOf (rv M) m t).1) (f_Mo_secondsOf (rv M) m t).2 := by
  refine RS_of (Nat.le_of_ble_eq_true rfl) ?_
  show mm_Wp pg_Mo_secondsOf rt_Mo_secondsOf (ct_Sem (d + 5)) (M, 0, [some (.inr (5, 24)), some (.inl (nI m)), some (.inl (nI t)), none, none, none], []) _
  refine wgo (g' := (M, 2, [some (.inr (5, 24)), some (.inl (nI m)), some (.inl (nI t)), some (.inl 0), none, none], [])) [oz 0, oz 0] rfl ⟨trivial, Nat.le_of_ble_eq_true rfl, trivial⟩ ?_
  have x1 : f_Mo_secondsOf (rv M) m t = f_so1 111 ((rv M)) m t 0 := by
    unfold f_Mo_secondsOf
    rfl
  rw [x1]
  exact lp_so1 (d := d)  (M := M) (m := m) (t := t)  hn3 hI0 hI1 hI2 hI3 hI4 hj8 hP2 hP3 hP5 hm ht hK2 hK3 111 _ M 0  rfl rf_rf hK (Nat.zero_le _) (by omega)
end
