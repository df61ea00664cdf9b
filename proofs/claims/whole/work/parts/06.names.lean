def ct_R0 : String := "CraneTurns$Crane"
def ct_T0 : u_T := fun k => match k with
  | 0 => ("CraneTurns$Crane", "place", "I", false)
  | 1 => ("CraneTurns$Crane", "low", "I", false)
  | 2 => ("CraneTurns$Crane", "high", "I", false)
  | 3 => ("CraneTurns$Crane", "isBroken", "Z", false)
  | 4 => ("CraneTurns$Crane", "atHand", "I", false)
  | 5 => ("CraneTurns$Crane", "does", "I", false)
  | 6 => ("CraneTurns$Crane", "goal", "I", false)
  | 7 => ("CraneTurns$Crane", "toGo", "I", false)
  | 8 => ("CraneTurns$Crane", "seconds", "[I", true)
  | 9 => ("CraneTurns$Crane", "waiting", "[I", true)
  | _ => ("CraneTurns$Crane", "waitingCount", "I", false)
def ct_ty0 : Nat → FieldType := fun k => match k with
  | 0 => .int
  | 1 => .int
  | 2 => .int
  | 3 => .boolean
  | 4 => .int
  | 5 => .int
  | 6 => .int
  | 7 => .int
  | 8 => .array .int
  | 9 => .array .int
  | _ => .int
theorem ct_nm0 : ∀ a, a < 11 → ∀ b, b < 11 → a ≠ b → (ct_T0 a).2.1 ≠ (ct_T0 b).2.1 := by decide +kernel
theorem ct_tyok0 : ∀ k, k < 11 → parseFieldDescriptor (ct_T0 k).2.2.1 = some (ct_ty0 k) := by decide +kernel
def ct_R1 : String := "CraneTurns$Job"
def ct_T1 : u_T := fun k => match k with
  | 0 => ("CraneTurns$Job", "from", "I", false)
  | 1 => ("CraneTurns$Job", "to", "I", false)
  | 2 => ("CraneTurns$Job", "ready", "I", false)
  | 3 => ("CraneTurns$Job", "stands", "I", false)
  | 4 => ("CraneTurns$Job", "owner", "I", false)
  | _ => ("CraneTurns$Job", "doneAt", "I", false)
def ct_ty1 : Nat → FieldType := fun k => match k with
  | 0 => .int
  | 1 => .int
  | 2 => .int
  | 3 => .int
  | 4 => .int
  | _ => .int
theorem ct_nm1 : ∀ a, a < 6 → ∀ b, b < 6 → a ≠ b → (ct_T1 a).2.1 ≠ (ct_T1 b).2.1 := by decide +kernel
theorem ct_tyok1 : ∀ k, k < 6 → parseFieldDescriptor (ct_T1 k).2.2.1 = some (ct_ty1 k) := by decide +kernel
def ct_R2 : String := "CraneTurns$Planner"
def ct_T2 : u_T := fun k => match k with
  | 0 => ("CraneTurns$Planner", "trial", "LCraneTurns$Yard;", true)
  | 1 => ("CraneTurns$Planner", "inWay", "[Z", true)
  | 2 => ("CraneTurns$Planner", "wayJobs", "[I", true)
  | 3 => ("CraneTurns$Planner", "wayCranes", "[I", true)
  | 4 => ("CraneTurns$Planner", "best", "[I", true)
  | 5 => ("CraneTurns$Planner", "givings", "I", false)
  | 6 => ("CraneTurns$Planner", "bestCount", "I", false)
  | 7 => ("CraneTurns$Planner", "bestSeconds", "I", false)
  | _ => ("CraneTurns$Planner", "limit", "I", false)
def ct_ty2 : Nat → FieldType := fun k => match k with
  | 0 => .object "CraneTurns$Yard"
  | 1 => .array .boolean
  | 2 => .array .int
  | 3 => .array .int
  | 4 => .array .int
  | 5 => .int
  | 6 => .int
  | 7 => .int
  | _ => .int
theorem ct_nm2 : ∀ a, a < 9 → ∀ b, b < 9 → a ≠ b → (ct_T2 a).2.1 ≠ (ct_T2 b).2.1 := by decide +kernel
theorem ct_tyok2 : ∀ k, k < 9 → parseFieldDescriptor (ct_T2 k).2.2.1 = some (ct_ty2 k) := by decide +kernel
def ct_R3 : String := "CraneTurns$Yard"
def ct_T3 : u_T := fun k => match k with
  | 0 => ("CraneTurns$Yard", "craneCount", "I", false)
  | 1 => ("CraneTurns$Yard", "gap", "I", false)
  | 2 => ("CraneTurns$Yard", "speed", "I", false)
  | 3 => ("CraneTurns$Yard", "lift", "I", false)
  | 4 => ("CraneTurns$Yard", "clock", "I", false)
  | 5 => ("CraneTurns$Yard", "nearest", "I", false)
  | 6 => ("CraneTurns$Yard", "jobCount", "I", false)
  | 7 => ("CraneTurns$Yard", "openJobs", "I", false)
  | 8 => ("CraneTurns$Yard", "givenEver", "Z", false)
  | 9 => ("CraneTurns$Yard", "cranes", "[LCraneTurns$Crane;", true)
  | _ => ("CraneTurns$Yard", "jobs", "[LCraneTurns$Job;", true)
def ct_ty3 : Nat → FieldType := fun k => match k with
  | 0 => .int
  | 1 => .int
  | 2 => .int
  | 3 => .int
  | 4 => .int
  | 5 => .int
  | 6 => .int
  | 7 => .int
  | 8 => .boolean
  | 9 => .array (.object "CraneTurns$Crane")
  | _ => .array (.object "CraneTurns$Job")
theorem ct_nm3 : ∀ a, a < 11 → ∀ b, b < 11 → a ≠ b → (ct_T3 a).2.1 ≠ (ct_T3 b).2.1 := by decide +kernel
theorem ct_tyok3 : ∀ k, k < 11 → parseFieldDescriptor (ct_T3 k).2.2.1 = some (ct_ty3 k) := by decide +kernel
def ct_R4 : String := "CraneTurns"
def ct_T4 : u_T := fun k => match k with
  | 0 => ("CraneTurns", "yard", "LCraneTurns$Yard;", true)
  | _ => ("CraneTurns", "planner", "LCraneTurns$Planner;", true)
def ct_ty4 : Nat → FieldType := fun k => match k with
  | 0 => .object "CraneTurns$Yard"
  | _ => .object "CraneTurns$Planner"
theorem ct_nm4 : ∀ a, a < 2 → ∀ b, b < 2 → a ≠ b → (ct_T4 a).2.1 ≠ (ct_T4 b).2.1 := by decide +kernel
theorem ct_tyok4 : ∀ k, k < 2 → parseFieldDescriptor (ct_T4 k).2.2.1 = some (ct_ty4 k) := by decide +kernel
def ct_R5 : String := "CraneTurnsModel"
def ct_T5 : u_T := fun k => match k with
  | 0 => ("CraneTurnsModel", "thrown", "I", false)
  | 1 => ("CraneTurnsModel", "cranes", "I", false)
  | 2 => ("CraneTurnsModel", "gap", "I", false)
  | 3 => ("CraneTurnsModel", "speed", "I", false)
  | 4 => ("CraneTurnsModel", "lift", "I", false)
  | 5 => ("CraneTurnsModel", "jobs", "I", false)
  | 6 => ("CraneTurnsModel", "low", "[I", true)
  | 7 => ("CraneTurnsModel", "high", "[I", true)
  | 8 => ("CraneTurnsModel", "all", "[I", true)
  | 9 => ("CraneTurnsModel", "kept", "[I", true)
  | 10 => ("CraneTurnsModel", "way", "[I", true)
  | 11 => ("CraneTurnsModel", "best", "[I", true)
  | _ => ("CraneTurnsModel", "bestMany", "I", false)
def ct_ty5 : Nat → FieldType := fun k => match k with
  | 0 => .int
  | 1 => .int
  | 2 => .int
  | 3 => .int
  | 4 => .int
  | 5 => .int
  | 6 => .array .int
  | 7 => .array .int
  | 8 => .array .int
  | 9 => .array .int
  | 10 => .array .int
  | 11 => .array .int
  | _ => .int
theorem ct_nm5 : ∀ a, a < 13 → ∀ b, b < 13 → a ≠ b → (ct_T5 a).2.1 ≠ (ct_T5 b).2.1 := by decide +kernel
theorem ct_tyok5 : ∀ k, k < 13 → parseFieldDescriptor (ct_T5 k).2.2.1 = some (ct_ty5 k) := by decide +kernel
abbrev ct_cl : List vw_C := [(ct_R0, ct_T0, 11), (ct_R1, ct_T1, 6), (ct_R2, ct_T2, 9), (ct_R3, ct_T3, 11), (ct_R4, ct_T4, 2), (ct_R5, ct_T5, 13)]
/-- the words that stay -/
def ct_GW : List Cond := lw_tbl.filter goodWord
theorem ct_good : ∀ w ∈ ct_GW, goodWord w = true := fun w h => (List.mem_filter.mp h).2
theorem ct_t1 {w : Cond} (h : w ∈ tables_1_1) (hg : goodWord w = true) : w ∈ ct_GW := List.mem_filter.mpr ⟨List.mem_append_right _ (List.mem_append_left _ h), hg⟩
theorem ct_t2 {w : Cond} (h : w ∈ tables_1_2) (hg : goodWord w = true) : w ∈ ct_GW := List.mem_filter.mpr ⟨List.mem_append_right _ (List.mem_append_right _ (List.mem_append_left _ h)), hg⟩
theorem ct_t3 {w : Cond} (h : w ∈ tables_1_3) (hg : goodWord w = true) : w ∈ ct_GW := List.mem_filter.mpr ⟨List.mem_append_right _ (List.mem_append_right _ (List.mem_append_right _ (List.mem_append_left _ h))), hg⟩
theorem ct_t4 {w : Cond} (h : w ∈ tables_1_4) (hg : goodWord w = true) : w ∈ ct_GW := List.mem_filter.mpr ⟨List.mem_append_right _ (List.mem_append_right _ (List.mem_append_right _ (List.mem_append_right _ h))), hg⟩
theorem ct_p1 {q : MethodName × Nat} (h : q ∈ lw_privs_1) : Cond.selects q.1.cls q.1 q.1 ∈ ct_GW := List.mem_filter.mpr ⟨List.mem_append_left _ (List.mem_map.mpr ⟨q, List.mem_append_left _ h, rfl⟩), rfl⟩
theorem ct_p2 {q : MethodName × Nat} (h : q ∈ lw_privs_2) : Cond.selects q.1.cls q.1 q.1 ∈ ct_GW := List.mem_filter.mpr ⟨List.mem_append_left _ (List.mem_map.mpr ⟨q, List.mem_append_right _ (List.mem_append_left _ h), rfl⟩), rfl⟩
theorem ct_p3 {q : MethodName × Nat} (h : q ∈ lw_privs_3) : Cond.selects q.1.cls q.1 q.1 ∈ ct_GW := List.mem_filter.mpr ⟨List.mem_append_left _ (List.mem_map.mpr ⟨q, List.mem_append_right _ (List.mem_append_right _ h), rfl⟩), rfl⟩
theorem ct_in0 : ∀ w ∈ u_ws ct_R0 ct_T0 11, w ∈ ct_GW := by decide +kernel
theorem ct_in1 : ∀ w ∈ u_ws ct_R1 ct_T1 6, w ∈ ct_GW := by decide +kernel
theorem ct_in2 : ∀ w ∈ u_ws ct_R2 ct_T2 9, w ∈ ct_GW := by decide +kernel
theorem ct_in3 : ∀ w ∈ u_ws ct_R3 ct_T3 11, w ∈ ct_GW := by decide +kernel
theorem ct_in4 : ∀ w ∈ u_ws ct_R4 ct_T4 2, w ∈ ct_GW := by decide +kernel
theorem ct_in5 : ∀ w ∈ u_ws ct_R5 ct_T5 13, w ∈ ct_GW := by decide +kernel
