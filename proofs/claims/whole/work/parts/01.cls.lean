-- class tables; which words of the tables they need
def tblG : List Cond := lw_tbl.filter goodWord
theorem mem_t {w : Cond} (i : Nat) (h : tables_1[i]? = some w) (hg : goodWord w = true) : w ∈ tblG := List.mem_filter.mpr ⟨List.mem_append_right _ (List.mem_of_getElem? h), hg⟩
theorem mem_s {w : Cond} (i : Nat) (h : (k2_sels lw_privs)[i]? = some w) (hg : goodWord w = true) : w ∈ tblG := List.mem_filter.mpr ⟨List.mem_append_left _ (List.mem_of_getElem? h), hg⟩
def R_Cases : String := "GatePatch$Cases"
def T_Cases : u_T := fun k => match k with
  | 0 => ("GatePatch$Cases", "number", "I", false)
  | 1 => ("GatePatch$Cases", "parts", "I", false)
  | 2 => ("GatePatch$Cases", "all", "[J", true)
  | _ => ("GatePatch$Cases", "live", "[J", true)
def ty_Cases : Nat → FieldType := fun k => match k with
  | 0 => .int
  | 1 => .int
  | 2 => .array .long
  | _ => .array .long
theorem nm_Cases : ∀ a, a < 4 → ∀ b, b < 4 → a ≠ b → (T_Cases a).2.1 ≠ (T_Cases b).2.1 := by decide +kernel
theorem tyk_Cases : ∀ k, k < 4 → parseFieldDescriptor (T_Cases k).2.2.1 = some (ty_Cases k) := by decide +kernel
theorem in_Cases : ∀ w ∈ u_ws R_Cases T_Cases 4, w ∈ tblG := by
  have h : u_ws R_Cases T_Cases 4 = ([146, 148, 150, 152] : List Nat).filterMap (fun i => tables_1[i]?) := by decide +kernel
  have hg : ∀ w ∈ u_ws R_Cases T_Cases 4, goodWord w = true := List.all_eq_true.mp (by decide +kernel)
  intro w hw; rw [h] at hw; obtain ⟨i, -, hi⟩ := List.mem_filterMap.mp hw; exact mem_t i hi (hg w (h ▸ hw))
def R_Finder : String := "GatePatch$Finder"
def T_Finder : u_T := fun k => match k with
  | 0 => ("GatePatch$Finder", "old", "LGatePatch$Net;", true)
  | 1 => ("GatePatch$Finder", "cases", "LGatePatch$Cases;", true)
  | 2 => ("GatePatch$Finder", "points", "[I", true)
  | 3 => ("GatePatch$Finder", "number", "I", false)
  | 4 => ("GatePatch$Finder", "told", "[I", true)
  | 5 => ("GatePatch$Finder", "tolds", "I", false)
  | 6 => ("GatePatch$Finder", "mends", "[J", true)
  | 7 => ("GatePatch$Finder", "allowed", "[I", true)
  | 8 => ("GatePatch$Finder", "left", "[I", true)
  | 9 => ("GatePatch$Finder", "first", "[I", true)
  | 10 => ("GatePatch$Finder", "functions", "[I", true)
  | 11 => ("GatePatch$Finder", "least", "I", false)
  | 12 => ("GatePatch$Finder", "clashFirst", "I", false)
  | _ => ("GatePatch$Finder", "clashCase", "I", false)
def ty_Finder : Nat → FieldType := fun k => match k with
  | 0 => .object "GatePatch$Net"
  | 1 => .object "GatePatch$Cases"
  | 2 => .array .int
  | 3 => .int
  | 4 => .array .int
  | 5 => .int
  | 6 => .array .long
  | 7 => .array .int
  | 8 => .array .int
  | 9 => .array .int
  | 10 => .array .int
  | 11 => .int
  | 12 => .int
  | _ => .int
theorem nm_Finder : ∀ a, a < 14 → ∀ b, b < 14 → a ≠ b → (T_Finder a).2.1 ≠ (T_Finder b).2.1 := by decide +kernel
theorem tyk_Finder : ∀ k, k < 14 → parseFieldDescriptor (T_Finder k).2.2.1 = some (ty_Finder k) := by decide +kernel
theorem in_Finder : ∀ w ∈ u_ws R_Finder T_Finder 14, w ∈ tblG := by
  have h : u_ws R_Finder T_Finder 14 = ([240, 242, 244, 246, 248, 250, 252, 254, 256, 258, 260, 262, 264, 266] : List Nat).filterMap (fun i => tables_1[i]?) := by decide +kernel
  have hg : ∀ w ∈ u_ws R_Finder T_Finder 14, goodWord w = true := List.all_eq_true.mp (by decide +kernel)
  intro w hw; rw [h] at hw; obtain ⟨i, -, hi⟩ := List.mem_filterMap.mp hw; exact mem_t i hi (hg w (h ▸ hw))
def R_Journal : String := "GatePatch$Journal"
def T_Journal : u_T := fun k => match k with
  | 0 => ("GatePatch$Journal", "before", "[LGatePatch$Plan;", true)
  | 1 => ("GatePatch$Journal", "usedBefore", "[I", true)
  | 2 => ("GatePatch$Journal", "undos", "I", false)
  | 3 => ("GatePatch$Journal", "changes", "[I", true)
  | 4 => ("GatePatch$Journal", "changeCount", "I", false)
  | 5 => ("GatePatch$Journal", "tests", "[I", true)
  | 6 => ("GatePatch$Journal", "testCount", "I", false)
  | _ => ("GatePatch$Journal", "was", "[J", true)
def ty_Journal : Nat → FieldType := fun k => match k with
  | 0 => .array (.object "GatePatch$Plan")
  | 1 => .array .int
  | 2 => .int
  | 3 => .array .int
  | 4 => .int
  | 5 => .array .int
  | 6 => .int
  | _ => .array .long
theorem nm_Journal : ∀ a, a < 8 → ∀ b, b < 8 → a ≠ b → (T_Journal a).2.1 ≠ (T_Journal b).2.1 := by decide +kernel
theorem tyk_Journal : ∀ k, k < 8 → parseFieldDescriptor (T_Journal k).2.2.1 = some (ty_Journal k) := by decide +kernel
theorem in_Journal : ∀ w ∈ u_ws R_Journal T_Journal 8, w ∈ tblG := by
  have h : u_ws R_Journal T_Journal 8 = ([430, 432, 434, 436, 438, 440, 442, 444] : List Nat).filterMap (fun i => tables_1[i]?) := by decide +kernel
  have hg : ∀ w ∈ u_ws R_Journal T_Journal 8, goodWord w = true := List.all_eq_true.mp (by decide +kernel)
  intro w hw; rw [h] at hw; obtain ⟨i, -, hi⟩ := List.mem_filterMap.mp hw; exact mem_t i hi (hg w (h ▸ hw))
def R_Marks : String := "GatePatch$Marks"
def T_Marks : u_T := fun k => match k with
  | 0 => ("GatePatch$Marks", "prices", "[I", true)
  | 1 => ("GatePatch$Marks", "number", "I", false)
  | 2 => ("GatePatch$Marks", "usable", "[I", true)
  | 3 => ("GatePatch$Marks", "usableCount", "I", false)
  | 4 => ("GatePatch$Marks", "bestU", "I", false)
  | 5 => ("GatePatch$Marks", "bestV", "I", false)
  | 6 => ("GatePatch$Marks", "bestW", "I", false)
  | 7 => ("GatePatch$Marks", "found", "Z", false)
  | _ => ("GatePatch$Marks", "leastSum", "I", false)
def ty_Marks : Nat → FieldType := fun k => match k with
  | 0 => .array .int
  | 1 => .int
  | 2 => .array .int
  | 3 => .int
  | 4 => .int
  | 5 => .int
  | 6 => .int
  | 7 => .boolean
  | _ => .int
theorem nm_Marks : ∀ a, a < 9 → ∀ b, b < 9 → a ≠ b → (T_Marks a).2.1 ≠ (T_Marks b).2.1 := by decide +kernel
theorem tyk_Marks : ∀ k, k < 9 → parseFieldDescriptor (T_Marks k).2.2.1 = some (ty_Marks k) := by decide +kernel
theorem in_Marks : ∀ w ∈ u_ws R_Marks T_Marks 9, w ∈ tblG := by
  have h : u_ws R_Marks T_Marks 9 = ([287, 289, 291, 293, 295, 297, 299, 301, 303] : List Nat).filterMap (fun i => tables_1[i]?) := by decide +kernel
  have hg : ∀ w ∈ u_ws R_Marks T_Marks 9, goodWord w = true := List.all_eq_true.mp (by decide +kernel)
  intro w hw; rw [h] at hw; obtain ⟨i, -, hi⟩ := List.mem_filterMap.mp hw; exact mem_t i hi (hg w (h ▸ hw))
def R_Mender : String := "GatePatch$Mender"
def T_Mender : u_T := fun k => match k with
  | 0 => ("GatePatch$Mender", "old", "LGatePatch$Net;", true)
  | 1 => ("GatePatch$Mender", "wish", "LGatePatch$Net;", true)
  | 2 => ("GatePatch$Mender", "cases", "LGatePatch$Cases;", true)
  | 3 => ("GatePatch$Mender", "points", "[I", true)
  | 4 => ("GatePatch$Mender", "number", "I", false)
  | 5 => ("GatePatch$Mender", "mask", "J", false)
  | 6 => ("GatePatch$Mender", "now", "[J", true)
  | 7 => ("GatePatch$Mender", "cone", "[I", true)
  | 8 => ("GatePatch$Mender", "coneSize", "I", false)
  | 9 => ("GatePatch$Mender", "due", "[J", true)
  | 10 => ("GatePatch$Mender", "wrong", "[J", true)
  | 11 => ("GatePatch$Mender", "wrongCount", "I", false)
  | 12 => ("GatePatch$Mender", "hardNext", "I", false)
  | 13 => ("GatePatch$Mender", "hardNow", "[J", true)
  | _ => ("GatePatch$Mender", "hardDue", "[J", true)
def ty_Mender : Nat → FieldType := fun k => match k with
  | 0 => .object "GatePatch$Net"
  | 1 => .object "GatePatch$Net"
  | 2 => .object "GatePatch$Cases"
  | 3 => .array .int
  | 4 => .int
  | 5 => .long
  | 6 => .array .long
  | 7 => .array .int
  | 8 => .int
  | 9 => .array .long
  | 10 => .array .long
  | 11 => .int
  | 12 => .int
  | 13 => .array .long
  | _ => .array .long
theorem nm_Mender : ∀ a, a < 15 → ∀ b, b < 15 → a ≠ b → (T_Mender a).2.1 ≠ (T_Mender b).2.1 := by decide +kernel
theorem tyk_Mender : ∀ k, k < 15 → parseFieldDescriptor (T_Mender k).2.2.1 = some (ty_Mender k) := by decide +kernel
theorem in_Mender : ∀ w ∈ u_ws R_Mender T_Mender 15, w ∈ tblG := by
  have h : u_ws R_Mender T_Mender 15 = ([180, 182, 184, 186, 188, 190, 192, 196, 198, 194, 200, 202, 208, 204, 206] : List Nat).filterMap (fun i => tables_1[i]?) := by decide +kernel
  have hg : ∀ w ∈ u_ws R_Mender T_Mender 15, goodWord w = true := List.all_eq_true.mp (by decide +kernel)
  intro w hw; rw [h] at hw; obtain ⟨i, -, hi⟩ := List.mem_filterMap.mp hw; exact mem_t i hi (hg w (h ▸ hw))
def R_Net : String := "GatePatch$Net"
def T_Net : u_T := fun k => match k with
  | 0 => ("GatePatch$Net", "plan", "LGatePatch$Plan;", true)
  | 1 => ("GatePatch$Net", "limit", "I", true)
  | 2 => ("GatePatch$Net", "order", "[I", true)
  | 3 => ("GatePatch$Net", "below", "[J", true)
  | 4 => ("GatePatch$Net", "words", "[J", true)
  | 5 => ("GatePatch$Net", "ticks", "[I", true)
  | _ => ("GatePatch$Net", "fresh", "Z", false)
def ty_Net : Nat → FieldType := fun k => match k with
  | 0 => .object "GatePatch$Plan"
  | 1 => .int
  | 2 => .array .int
  | 3 => .array .long
  | 4 => .array .long
  | 5 => .array .int
  | _ => .boolean
theorem nm_Net : ∀ a, a < 7 → ∀ b, b < 7 → a ≠ b → (T_Net a).2.1 ≠ (T_Net b).2.1 := by decide +kernel
theorem tyk_Net : ∀ k, k < 7 → parseFieldDescriptor (T_Net k).2.2.1 = some (ty_Net k) := by decide +kernel
theorem in_Net : ∀ w ∈ u_ws R_Net T_Net 7, w ∈ tblG := by
  have h : u_ws R_Net T_Net 7 = ([111, 113, 115, 117, 119, 121, 123] : List Nat).filterMap (fun i => tables_1[i]?) := by decide +kernel
  have hg : ∀ w ∈ u_ws R_Net T_Net 7, goodWord w = true := List.all_eq_true.mp (by decide +kernel)
  intro w hw; rw [h] at hw; obtain ⟨i, -, hi⟩ := List.mem_filterMap.mp hw; exact mem_t i hi (hg w (h ▸ hw))
def R_Patch : String := "GatePatch$Patch"
def T_Patch : u_T := fun k => match k with
  | 0 => ("GatePatch$Patch", "kept", "Z", false)
  | 1 => ("GatePatch$Patch", "placed", "Z", false)
  | 2 => ("GatePatch$Patch", "pointWires", "[I", true)
  | 3 => ("GatePatch$Patch", "points", "I", false)
  | 4 => ("GatePatch$Patch", "toldWires", "[I", true)
  | 5 => ("GatePatch$Patch", "tolds", "I", false)
  | 6 => ("GatePatch$Patch", "functions", "[I", true)
  | 7 => ("GatePatch$Patch", "roots", "[I", true)
  | 8 => ("GatePatch$Patch", "nodes", "I", false)
  | 9 => ("GatePatch$Patch", "kinds", "[I", true)
  | 10 => ("GatePatch$Patch", "firsts", "[I", true)
  | 11 => ("GatePatch$Patch", "seconds", "[I", true)
  | 12 => ("GatePatch$Patch", "owners", "[I", true)
  | 13 => ("GatePatch$Patch", "spareOf", "[I", true)
  | _ => ("GatePatch$Patch", "made", "[I", true)
def ty_Patch : Nat → FieldType := fun k => match k with
  | 0 => .boolean
  | 1 => .boolean
  | 2 => .array .int
  | 3 => .int
  | 4 => .array .int
  | 5 => .int
  | 6 => .array .int
  | 7 => .array .int
  | 8 => .int
  | 9 => .array .int
  | 10 => .array .int
  | 11 => .array .int
  | 12 => .array .int
  | 13 => .array .int
  | _ => .array .int
theorem nm_Patch : ∀ a, a < 15 → ∀ b, b < 15 → a ≠ b → (T_Patch a).2.1 ≠ (T_Patch b).2.1 := by decide +kernel
theorem tyk_Patch : ∀ k, k < 15 → parseFieldDescriptor (T_Patch k).2.2.1 = some (ty_Patch k) := by decide +kernel
theorem in_Patch : ∀ w ∈ u_ws R_Patch T_Patch 15, w ∈ tblG := by
  have h : u_ws R_Patch T_Patch 15 = ([350, 352, 354, 356, 358, 360, 362, 364, 366, 368, 370, 372, 374, 376, 378] : List Nat).filterMap (fun i => tables_1[i]?) := by decide +kernel
  have hg : ∀ w ∈ u_ws R_Patch T_Patch 15, goodWord w = true := List.all_eq_true.mp (by decide +kernel)
  intro w hw; rw [h] at hw; obtain ⟨i, -, hi⟩ := List.mem_filterMap.mp hw; exact mem_t i hi (hg w (h ▸ hw))
def R_Plan : String := "GatePatch$Plan"
def T_Plan : u_T := fun k => match k with
  | 0 => ("GatePatch$Plan", "inputs", "I", false)
  | 1 => ("GatePatch$Plan", "stores", "I", false)
  | 2 => ("GatePatch$Plan", "outputs", "I", false)
  | 3 => ("GatePatch$Plan", "gates", "I", false)
  | 4 => ("GatePatch$Plan", "kinds", "[I", true)
  | 5 => ("GatePatch$Plan", "pins", "[I", true)
  | 6 => ("GatePatch$Plan", "seen", "[I", true)
  | _ => ("GatePatch$Plan", "places", "[I", true)
def ty_Plan : Nat → FieldType := fun k => match k with
  | 0 => .int
  | 1 => .int
  | 2 => .int
  | 3 => .int
  | 4 => .array .int
  | 5 => .array .int
  | 6 => .array .int
  | _ => .array .int
theorem nm_Plan : ∀ a, a < 8 → ∀ b, b < 8 → a ≠ b → (T_Plan a).2.1 ≠ (T_Plan b).2.1 := by decide +kernel
theorem tyk_Plan : ∀ k, k < 8 → parseFieldDescriptor (T_Plan k).2.2.1 = some (ty_Plan k) := by decide +kernel
theorem in_Plan : ∀ w ∈ u_ws R_Plan T_Plan 8, w ∈ tblG := by
  have h : u_ws R_Plan T_Plan 8 = ([71, 73, 75, 77, 79, 81, 83, 85] : List Nat).filterMap (fun i => tables_1[i]?) := by decide +kernel
  have hg : ∀ w ∈ u_ws R_Plan T_Plan 8, goodWord w = true := List.all_eq_true.mp (by decide +kernel)
  intro w hw; rw [h] at hw; obtain ⟨i, -, hi⟩ := List.mem_filterMap.mp hw; exact mem_t i hi (hg w (h ▸ hw))
def R_Spares : String := "GatePatch$Spares"
def T_Spares : u_T := fun k => match k with
  | 0 => ("GatePatch$Spares", "number", "I", false)
  | 1 => ("GatePatch$Spares", "usedMask", "I", false)
  | 2 => ("GatePatch$Spares", "kinds", "[I", true)
  | 3 => ("GatePatch$Spares", "places", "[I", true)
  | 4 => ("GatePatch$Spares", "lengths", "[I", true)
  | _ => ("GatePatch$Spares", "rest", "[I", true)
def ty_Spares : Nat → FieldType := fun k => match k with
  | 0 => .int
  | 1 => .int
  | 2 => .array .int
  | 3 => .array .int
  | 4 => .array .int
  | _ => .array .int
theorem nm_Spares : ∀ a, a < 6 → ∀ b, b < 6 → a ≠ b → (T_Spares a).2.1 ≠ (T_Spares b).2.1 := by decide +kernel
theorem tyk_Spares : ∀ k, k < 6 → parseFieldDescriptor (T_Spares k).2.2.1 = some (ty_Spares k) := by decide +kernel
theorem in_Spares : ∀ w ∈ u_ws R_Spares T_Spares 6, w ∈ tblG := by
  have h : u_ws R_Spares T_Spares 6 = ([395, 397, 399, 401, 403, 405] : List Nat).filterMap (fun i => tables_1[i]?) := by decide +kernel
  have hg : ∀ w ∈ u_ws R_Spares T_Spares 6, goodWord w = true := List.all_eq_true.mp (by decide +kernel)
  intro w hw; rw [h] at hw; obtain ⟨i, -, hi⟩ := List.mem_filterMap.mp hw; exact mem_t i hi (hg w (h ▸ hw))
def R_Tape : String := "GatePatch$Tape"
def T_Tape : u_T := fun k => match k with
  | 0 => ("GatePatch$Tape", "sort", "I", false)
  | 1 => ("GatePatch$Tape", "length", "I", false)
  | 2 => ("GatePatch$Tape", "elements", "[J", true)
  | _ => ("GatePatch$Tape", "plan", "LGatePatch$Plan;", true)
def ty_Tape : Nat → FieldType := fun k => match k with
  | 0 => .int
  | 1 => .int
  | 2 => .array .long
  | _ => .object "GatePatch$Plan"
theorem nm_Tape : ∀ a, a < 4 → ∀ b, b < 4 → a ≠ b → (T_Tape a).2.1 ≠ (T_Tape b).2.1 := by decide +kernel
theorem tyk_Tape : ∀ k, k < 4 → parseFieldDescriptor (T_Tape k).2.2.1 = some (ty_Tape k) := by decide +kernel
theorem in_Tape : ∀ w ∈ u_ws R_Tape T_Tape 4, w ∈ tblG := by
  have h : u_ws R_Tape T_Tape 4 = ([464, 466, 468, 470] : List Nat).filterMap (fun i => tables_1[i]?) := by decide +kernel
  have hg : ∀ w ∈ u_ws R_Tape T_Tape 4, goodWord w = true := List.all_eq_true.mp (by decide +kernel)
  intro w hw; rw [h] at hw; obtain ⟨i, -, hi⟩ := List.mem_filterMap.mp hw; exact mem_t i hi (hg w (h ▸ hw))
def R_GP : String := "GatePatch"
def T_GP : u_T := fun k => match k with
  | 0 => ("GatePatch", "old", "LGatePatch$Net;", true)
  | 1 => ("GatePatch", "wish", "LGatePatch$Net;", true)
  | 2 => ("GatePatch", "cases", "LGatePatch$Cases;", true)
  | 3 => ("GatePatch", "mender", "LGatePatch$Mender;", true)
  | 4 => ("GatePatch", "finder", "LGatePatch$Finder;", true)
  | 5 => ("GatePatch", "marks", "LGatePatch$Marks;", true)
  | 6 => ("GatePatch", "patch", "LGatePatch$Patch;", true)
  | 7 => ("GatePatch", "spares", "LGatePatch$Spares;", true)
  | 8 => ("GatePatch", "journal", "LGatePatch$Journal;", true)
  | 9 => ("GatePatch", "tapes", "[LGatePatch$Tape;", true)
  | 10 => ("GatePatch", "delays", "[I", true)
  | 11 => ("GatePatch", "keptPoints", "[I", true)
  | 12 => ("GatePatch", "keptCount", "I", false)
  | 13 => ("GatePatch", "clashFirst", "I", false)
  | 14 => ("GatePatch", "clashCase", "I", false)
  | _ => ("GatePatch", "refusals", "I", false)
def ty_GP : Nat → FieldType := fun k => match k with
  | 0 => .object "GatePatch$Net"
  | 1 => .object "GatePatch$Net"
  | 2 => .object "GatePatch$Cases"
  | 3 => .object "GatePatch$Mender"
  | 4 => .object "GatePatch$Finder"
  | 5 => .object "GatePatch$Marks"
  | 6 => .object "GatePatch$Patch"
  | 7 => .object "GatePatch$Spares"
  | 8 => .object "GatePatch$Journal"
  | 9 => .array (.object "GatePatch$Tape")
  | 10 => .array .int
  | 11 => .array .int
  | 12 => .int
  | 13 => .int
  | 14 => .int
  | _ => .int
theorem nm_GP : ∀ a, a < 16 → ∀ b, b < 16 → a ≠ b → (T_GP a).2.1 ≠ (T_GP b).2.1 := by decide +kernel
theorem tyk_GP : ∀ k, k < 16 → parseFieldDescriptor (T_GP k).2.2.1 = some (ty_GP k) := by decide +kernel
theorem in_GP : ∀ w ∈ u_ws R_GP T_GP 16, w ∈ tblG := by
  have h : u_ws R_GP T_GP 16 = ([530, 532, 534, 536, 538, 540, 542, 544, 546, 548, 550, 552, 554, 556, 558, 560] : List Nat).filterMap (fun i => tables_1[i]?) := by decide +kernel
  have hg : ∀ w ∈ u_ws R_GP T_GP 16, goodWord w = true := List.all_eq_true.mp (by decide +kernel)
  intro w hw; rw [h] at hw; obtain ⟨i, -, hi⟩ := List.mem_filterMap.mp hw; exact mem_t i hi (hg w (h ▸ hw))
def R_Mod : String := "GatePatchModel"
def T_Mod : u_T := fun k => match k with
  | 0 => ("GatePatchModel", "thrown", "I", false)
  | 1 => ("GatePatchModel", "inputs", "I", false)
  | 2 => ("GatePatchModel", "stores", "I", false)
  | 3 => ("GatePatchModel", "outputs", "I", false)
  | 4 => ("GatePatchModel", "gates", "[I", true)
  | 5 => ("GatePatchModel", "kind", "[I", true)
  | 6 => ("GatePatchModel", "pin", "[I", true)
  | 7 => ("GatePatchModel", "out", "[I", true)
  | 8 => ("GatePatchModel", "next", "[I", true)
  | 9 => ("GatePatchModel", "isFree", "[Z", true)
  | 10 => ("GatePatchModel", "x", "[I", true)
  | 11 => ("GatePatchModel", "y", "[I", true)
  | 12 => ("GatePatchModel", "spares", "I", false)
  | 13 => ("GatePatchModel", "spareKind", "[I", true)
  | 14 => ("GatePatchModel", "spareX", "[I", true)
  | 15 => ("GatePatchModel", "spareY", "[I", true)
  | 16 => ("GatePatchModel", "isUsed", "[Z", true)
  | 17 => ("GatePatchModel", "delay", "[I", true)
  | 18 => ("GatePatchModel", "price", "[I", true)
  | 19 => ("GatePatchModel", "kept", "I", false)
  | 20 => ("GatePatchModel", "keptPoint", "[I", true)
  | 21 => ("GatePatchModel", "clashFirst", "I", false)
  | 22 => ("GatePatchModel", "clashCase", "I", false)
  | 23 => ("GatePatchModel", "hasPatch", "Z", false)
  | 24 => ("GatePatchModel", "isPlaced", "Z", false)
  | 25 => ("GatePatchModel", "points", "I", false)
  | 26 => ("GatePatchModel", "toldWires", "I", false)
  | 27 => ("GatePatchModel", "nodes", "I", false)
  | 28 => ("GatePatchModel", "point", "[I", true)
  | 29 => ("GatePatchModel", "told", "[I", true)
  | 30 => ("GatePatchModel", "function", "[I", true)
  | 31 => ("GatePatchModel", "nodeKind", "[I", true)
  | 32 => ("GatePatchModel", "nodeA", "[I", true)
  | 33 => ("GatePatchModel", "nodeB", "[I", true)
  | 34 => ("GatePatchModel", "nodeOf", "[I", true)
  | 35 => ("GatePatchModel", "nodeSpare", "[I", true)
  | 36 => ("GatePatchModel", "undos", "I", false)
  | 37 => ("GatePatchModel", "changes", "I", false)
  | 38 => ("GatePatchModel", "tests", "I", false)
  | 39 => ("GatePatchModel", "changeHow", "[I", true)
  | 40 => ("GatePatchModel", "changeAt", "[I", true)
  | 41 => ("GatePatchModel", "changePin", "[I", true)
  | 42 => ("GatePatchModel", "test", "[I", true)
  | 43 => ("GatePatchModel", "sort", "[I", true)
  | 44 => ("GatePatchModel", "size", "[I", true)
  | 45 => ("GatePatchModel", "cells", "[J", true)
  | 46 => ("GatePatchModel", "sInputs", "[I", true)
  | 47 => ("GatePatchModel", "sStores", "[I", true)
  | 48 => ("GatePatchModel", "sOutputs", "[I", true)
  | 49 => ("GatePatchModel", "sGates", "[I", true)
  | 50 => ("GatePatchModel", "sKind", "[I", true)
  | 51 => ("GatePatchModel", "sPin", "[I", true)
  | 52 => ("GatePatchModel", "sOut", "[I", true)
  | 53 => ("GatePatchModel", "sNext", "[I", true)
  | 54 => ("GatePatchModel", "sX", "[I", true)
  | 55 => ("GatePatchModel", "sY", "[I", true)
  | 56 => ("GatePatchModel", "sUsed", "[Z", true)
  | 57 => ("GatePatchModel", "refusals", "I", false)
  | 58 => ("GatePatchModel", "hangs", "[Z", true)
  | 59 => ("GatePatchModel", "order", "[I", true)
  | 60 => ("GatePatchModel", "isSorted", "[Z", true)
  | 61 => ("GatePatchModel", "value", "[J", true)
  | 62 => ("GatePatchModel", "forced", "[I", true)
  | 63 => ("GatePatchModel", "forcedMany", "I", false)
  | 64 => ("GatePatchModel", "forcedTo", "I", false)
  | 65 => ("GatePatchModel", "mends", "[J", true)
  | 66 => ("GatePatchModel", "costs", "[I", true)
  | 67 => ("GatePatchModel", "isReckoned", "[Z", true)
  | 68 => ("GatePatchModel", "known", "[I", true)
  | 69 => ("GatePatchModel", "allowed", "[I", true)
  | 70 => ("GatePatchModel", "tried", "[I", true)
  | 71 => ("GatePatchModel", "foundOne", "I", false)
  | 72 => ("GatePatchModel", "foundTwo", "I", false)
  | 73 => ("GatePatchModel", "bestSum", "I", false)
  | 74 => ("GatePatchModel", "bestMany", "I", false)
  | 75 => ("GatePatchModel", "bestWires", "[I", true)
  | 76 => ("GatePatchModel", "may", "[I", true)
  | 77 => ("GatePatchModel", "least", "[I", true)
  | 78 => ("GatePatchModel", "arrives", "[I", true)
  | 79 => ("GatePatchModel", "newWire", "[I", true)
  | 80 => ("GatePatchModel", "ahead", "[I", true)
  | _ => ("GatePatchModel", "moved", "[J", true)
def ty_Mod : Nat → FieldType := fun k => match k with
  | 0 => .int
  | 1 => .int
  | 2 => .int
  | 3 => .int
  | 4 => .array .int
  | 5 => .array .int
  | 6 => .array .int
  | 7 => .array .int
  | 8 => .array .int
  | 9 => .array .boolean
  | 10 => .array .int
  | 11 => .array .int
  | 12 => .int
  | 13 => .array .int
  | 14 => .array .int
  | 15 => .array .int
  | 16 => .array .boolean
  | 17 => .array .int
  | 18 => .array .int
  | 19 => .int
  | 20 => .array .int
  | 21 => .int
  | 22 => .int
  | 23 => .boolean
  | 24 => .boolean
  | 25 => .int
  | 26 => .int
  | 27 => .int
  | 28 => .array .int
  | 29 => .array .int
  | 30 => .array .int
  | 31 => .array .int
  | 32 => .array .int
  | 33 => .array .int
  | 34 => .array .int
  | 35 => .array .int
  | 36 => .int
  | 37 => .int
  | 38 => .int
  | 39 => .array .int
  | 40 => .array .int
  | 41 => .array .int
  | 42 => .array .int
  | 43 => .array .int
  | 44 => .array .int
  | 45 => .array .long
  | 46 => .array .int
  | 47 => .array .int
  | 48 => .array .int
  | 49 => .array .int
  | 50 => .array .int
  | 51 => .array .int
  | 52 => .array .int
  | 53 => .array .int
  | 54 => .array .int
  | 55 => .array .int
  | 56 => .array .boolean
  | 57 => .int
  | 58 => .array .boolean
  | 59 => .array .int
  | 60 => .array .boolean
  | 61 => .array .long
  | 62 => .array .int
  | 63 => .int
  | 64 => .int
  | 65 => .array .long
  | 66 => .array .int
  | 67 => .array .boolean
  | 68 => .array .int
  | 69 => .array .int
  | 70 => .array .int
  | 71 => .int
  | 72 => .int
  | 73 => .int
  | 74 => .int
  | 75 => .array .int
  | 76 => .array .int
  | 77 => .array .int
  | 78 => .array .int
  | 79 => .array .int
  | 80 => .array .int
  | _ => .array .long
theorem nm_Mod : ∀ a, a < 82 → ∀ b, b < 82 → a ≠ b → (T_Mod a).2.1 ≠ (T_Mod b).2.1 := by decide +kernel
theorem tyk_Mod : ∀ k, k < 82 → parseFieldDescriptor (T_Mod k).2.2.1 = some (ty_Mod k) := by decide +kernel
theorem in_Mod : ∀ w ∈ u_ws R_Mod T_Mod 82, w ∈ tblG := by
  have h : u_ws R_Mod T_Mod 82 = ([1416, 1418, 1420, 1422, 1424, 1426, 1428, 1430, 1432, 1434, 1436, 1438, 1440, 1442, 1444, 1446, 1448, 1450, 1452, 1454, 1456, 1458, 1460, 1462, 1464, 1466, 1468, 1470, 1472, 1474, 1476, 1478, 1480, 1482, 1484, 1486, 1488, 1490, 1492, 1494, 1496, 1498, 1500, 1502, 1504, 1506, 1508, 1510, 1512, 1514, 1516, 1518, 1520, 1522, 1524, 1526, 1528, 1530, 1532, 1534, 1536, 1538, 1540, 1542, 1544, 1546, 1548, 1550, 1552, 1554, 1556, 1558, 1560, 1562, 1564, 1566, 1568, 1570, 1572, 1574, 1576, 1578] : List Nat).filterMap (fun i => tables_1[i]?) := by decide +kernel
  have hg : ∀ w ∈ u_ws R_Mod T_Mod 82, goodWord w = true := List.all_eq_true.mp (by decide +kernel)
  intro w hw; rw [h] at hw; obtain ⟨i, -, hi⟩ := List.mem_filterMap.mp hw; exact mem_t i hi (hg w (h ▸ hw))
def clT : List vw_C := [(R_Cases, T_Cases, 4), (R_Finder, T_Finder, 14), (R_Journal, T_Journal, 8), (R_Marks, T_Marks, 9), (R_Mender, T_Mender, 15), (R_Net, T_Net, 7), (R_Patch, T_Patch, 15), (R_Plan, T_Plan, 8), (R_Spares, T_Spares, 6), (R_Tape, T_Tape, 4), (R_GP, T_GP, 16), (R_Mod, T_Mod, 82)]
def ftL : List (List Nat) := [[0, 0, 2, 2], [2, 2, 2, 0, 2, 0, 2, 2, 2, 2, 2, 0, 0, 0], [2, 2, 0, 2, 0, 2, 0, 2], [2, 0, 2, 0, 0, 0, 0, 3, 0], [2, 2, 2, 2, 0, 1, 2, 2, 0, 2, 2, 0, 0, 2, 2], [2, 0, 2, 2, 2, 2, 3], [3, 3, 2, 0, 2, 0, 2, 2, 0, 2, 2, 2, 2, 2, 2], [0, 0, 0, 0, 2, 2, 2, 2], [0, 0, 2, 2, 2, 2], [0, 0, 2, 2], [2, 2, 2, 2, 2, 2, 2, 2, 2, 2, 2, 2, 0, 0, 0, 0], [0, 0, 0, 0, 2, 2, 2, 2, 2, 2, 2, 2, 0, 2, 2, 2, 2, 2, 2, 0, 2, 0, 0, 3, 3, 0, 0, 0, 2, 2, 2, 2, 2, 2, 2, 2, 0, 0, 0, 2, 2, 2, 2, 2, 2, 2, 2, 2, 2, 2, 2, 2, 2, 2, 2, 2, 2, 0, 2, 2, 2, 2, 2, 0, 0, 2, 2, 2, 2, 2, 2, 0, 0, 0, 0, 2, 2, 2, 2, 2, 2, 2]]
def ftT : List (Nat → FieldType) := [ty_Cases, ty_Finder, ty_Journal, ty_Marks, ty_Mender, ty_Net, ty_Patch, ty_Plan, ty_Spares, ty_Tape, ty_GP, ty_Mod]
