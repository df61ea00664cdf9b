theorem ct_all {P : Nat → Prop} {n : Nat} (h : ∀ z, z < n → P z) : ∀ z, ct_rt z ≠ [] → n = 70 → P z := fun z hz hn => h z (by
  rcases Nat.lt_or_ge z n with q | q
  · exact q
  · exfalso
    apply hz
    subst hn
    simp only [ct_rt, List.getD_eq_getElem?_getD]
    rw [List.getElem?_eq_none (by simpa using q)]
    rfl)
set_option maxRecDepth 100000 in
set_option maxHeartbeats 4000000 in
theorem ct_sound {D : va_G} {ad : Nat → Nat} {cA : Nat → ClassId} {l : Launch} : ∀ d, mm_Sound ct_GW ct_NW D ct_cl (ct_tys cA) ad cA ct_K ct_kd ct_N l ct_T (mm_rm d) (ct_Sem d) :=
  by
  refine mm_sound ct_lay (fun z hz => ct_all (n := 70) (P := fun z => plainName (ct_T.1 z).cls = true) (by decide +kernel) z hz rfl) (fun z hz => ct_all (n := 70) (P := fun z => mm_RtOk (ct_T.2.1 z) (ct_T.2.2.2 z) (ct_rt z)) (fun z h => ?_) z hz rfl) (fun d S hS z hz => ct_all (n := 70) (P := fun z => ∀ pc f, mm_at (ct_pg z) pc = some f → mm_Ok ct_GW ct_NW D ct_cl (ct_tys cA) ad cA ct_K ct_kd ct_N l (mm_rm (d + 1)) (ct_T.1 z).cls (ct_T.2.1 z) (ct_T.2.2.1 z) S pc f) (fun z h => ?_) z hz rfl)
  · match z, h with
    | 0, _ => exact ro_Ct_near
    | 1, _ => exact ro_Ct_within
    | 2, _ => exact ro_Cr_stand
    | 3, _ => exact ro_Cr_reaches
    | 4, _ => exact ro_Cr_hasGoal
    | 5, _ => exact ro_Cr_queue
    | 6, _ => exact ro_Cr_unqueue
    | 7, _ => exact ro_Cr_copyOf
    | 8, _ => exact ro_Jb_copyOf
    | 9, _ => exact ro_Pl_search
    | 10, _ => exact ro_Pl_bestGiving
    | 11, _ => exact ro_Pl_extendWay
    | 12, _ => exact ro_Pl_isTriedAlready
    | 13, _ => exact ro_Pl_tryWay
    | 14, _ => exact ro_Pl_keepWay
    | 15, _ => exact ro_Yd_hasTrack
    | 16, _ => exact ro_Yd_lay
    | 17, _ => exact ro_Yd_addJob
    | 18, _ => exact ro_Yd_hand
    | 19, _ => exact ro_Yd_free
    | 20, _ => exact ro_Yd_countFree
    | 21, _ => exact ro_Yd_floorOf
    | 22, _ => exact ro_Yd_ceilingOf
    | 23, _ => exact ro_Yd_hasRoom
    | 24, _ => exact ro_Yd_passSecond
    | 25, _ => exact ro_Yd_passSecondOf
    | 26, _ => exact ro_Yd_takeFirst
    | 27, _ => exact ro_Yd_handleIfThere
    | 28, _ => exact ro_Yd_liftOn
    | 29, _ => exact ro_Yd_setOn
    | 30, _ => exact ro_Yd_placeOutOfTheWay
    | 31, _ => exact ro_Yd_moveToward
    | 32, _ => exact ro_Yd_copyOf
    | 33, _ => exact ro_Mo_thrown
    | 34, _ => exact ro_Mo_throwing
    | 35, _ => exact ro_Mo_in
    | 36, _ => exact ro_Mo_isCrane
    | 37, _ => exact ro_Mo_isJob
    | 38, _ => exact ro_Mo_ofCrane
    | 39, _ => exact ro_Mo_setCrane
    | 40, _ => exact ro_Mo_ofJob
    | 41, _ => exact ro_Mo_setJob
    | 42, _ => exact ro_Mo_track
    | 43, _ => exact ro_Mo_crane
    | 44, _ => exact ro_Mo_job
    | 45, _ => exact ro_Mo_reaches
    | 46, _ => exact ro_Mo_giveTo
    | 47, _ => exact ro_Mo_give
    | 48, _ => exact ro_Mo_take
    | 49, _ => exact ro_Mo_broken
    | 50, _ => exact ro_Mo_firstOf
    | 51, _ => exact ro_Mo_hasGoal
    | 52, _ => exact ro_Mo_goalOf
    | 53, _ => exact ro_Mo_begins
    | 54, _ => exact ro_Mo_takesJob
    | 55, _ => exact ro_Mo_goes
    | 56, _ => exact ro_Mo_lessToGo
    | 57, _ => exact ro_Mo_givesWay
    | 58, _ => exact ro_Mo_second
    | 59, _ => exact ro_Mo_secondOfAll
    | 60, _ => exact ro_Mo_run
    | 61, _ => exact ro_Mo_at
    | 62, _ => exact ro_Mo_state
    | 63, _ => exact ro_Mo_near
    | 64, _ => exact ro_Mo_isAllDone
    | 65, _ => exact ro_Mo_secondsOf
    | 66, _ => exact ro_Mo_isInWay
    | 67, _ => exact ro_Mo_may
    | 68, _ => exact ro_Mo_plan
    | 69, _ => exact ro_Mo_planned
    | z + 70, h => exact absurd h (by omega)
  · match z, h with
    | 0, _ => exact po_Ct_near hS
    | 1, _ => exact po_Ct_within hS
    | 2, _ => exact po_Cr_stand hS
    | 3, _ => exact po_Cr_reaches hS
    | 4, _ => exact po_Cr_hasGoal hS
    | 5, _ => exact po_Cr_queue hS
    | 6, _ => exact po_Cr_unqueue hS
    | 7, _ => exact po_Cr_copyOf hS
    | 8, _ => exact po_Jb_copyOf hS
    | 9, _ => exact po_Pl_search hS
    | 10, _ => exact po_Pl_bestGiving hS
    | 11, _ => exact po_Pl_extendWay hS
    | 12, _ => exact po_Pl_isTriedAlready hS
    | 13, _ => exact po_Pl_tryWay hS
    | 14, _ => exact po_Pl_keepWay hS
    | 15, _ => exact po_Yd_hasTrack hS
    | 16, _ => exact po_Yd_lay hS
    | 17, _ => exact po_Yd_addJob hS
    | 18, _ => exact po_Yd_hand hS
    | 19, _ => exact po_Yd_free hS
    | 20, _ => exact po_Yd_countFree hS
    | 21, _ => exact po_Yd_floorOf hS
    | 22, _ => exact po_Yd_ceilingOf hS
    | 23, _ => exact po_Yd_hasRoom hS
    | 24, _ => exact po_Yd_passSecond hS
    | 25, _ => exact po_Yd_passSecondOf hS
    | 26, _ => exact po_Yd_takeFirst hS
    | 27, _ => exact po_Yd_handleIfThere hS
    | 28, _ => exact po_Yd_liftOn hS
    | 29, _ => exact po_Yd_setOn hS
    | 30, _ => exact po_Yd_placeOutOfTheWay hS
    | 31, _ => exact po_Yd_moveToward hS
    | 32, _ => exact po_Yd_copyOf hS
    | 33, _ => exact po_Mo_thrown hS
    | 34, _ => exact po_Mo_throwing hS
    | 35, _ => exact po_Mo_in hS
    | 36, _ => exact po_Mo_isCrane hS
    | 37, _ => exact po_Mo_isJob hS
    | 38, _ => exact po_Mo_ofCrane hS
    | 39, _ => exact po_Mo_setCrane hS
    | 40, _ => exact po_Mo_ofJob hS
    | 41, _ => exact po_Mo_setJob hS
    | 42, _ => exact po_Mo_track hS
    | 43, _ => exact po_Mo_crane hS
    | 44, _ => exact po_Mo_job hS
    | 45, _ => exact po_Mo_reaches hS
    | 46, _ => exact po_Mo_giveTo hS
    | 47, _ => exact po_Mo_give hS
    | 48, _ => exact po_Mo_take hS
    | 49, _ => exact po_Mo_broken hS
    | 50, _ => exact po_Mo_firstOf hS
    | 51, _ => exact po_Mo_hasGoal hS
    | 52, _ => exact po_Mo_goalOf hS
    | 53, _ => exact po_Mo_begins hS
    | 54, _ => exact po_Mo_takesJob hS
    | 55, _ => exact po_Mo_goes hS
    | 56, _ => exact po_Mo_lessToGo hS
    | 57, _ => exact po_Mo_givesWay hS
    | 58, _ => exact po_Mo_second hS
    | 59, _ => exact po_Mo_secondOfAll hS
    | 60, _ => exact po_Mo_run hS
    | 61, _ => exact po_Mo_at hS
    | 62, _ => exact po_Mo_state hS
    | 63, _ => exact po_Mo_near hS
    | 64, _ => exact po_Mo_isAllDone hS
    | 65, _ => exact po_Mo_secondsOf hS
    | 66, _ => exact po_Mo_isInWay hS
    | 67, _ => exact po_Mo_may hS
    | 68, _ => exact po_Mo_plan hS
    | 69, _ => exact po_Mo_planned hS
    | z + 70, h => exact absurd h (by omega)
