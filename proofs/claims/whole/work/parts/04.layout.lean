/-! ===== classes: names, fields (out of the printed names) ===== -/
def RX0 : String := "FeltHarness$Book"
def TX0 : u_T := fun k => match k with
  | 0 => ("FeltHarness$Book", "tired", "[I", true)
  | 1 => ("FeltHarness$Book", "drafted", "[I", true)
  | _ => ("FeltHarness$Book", "size", "I", false)
def tyX0 : Nat → FieldType := fun k => match k with
  | 0 => .array .int
  | 1 => .array .int
  | _ => .int
theorem nmX0 : ∀ a, a < 3 → ∀ b, b < 3 → a ≠ b → (TX0 a).2.1 ≠ (TX0 b).2.1 := by decide +kernel
theorem tyX0_ok : ∀ k, k < 3 → parseFieldDescriptor (TX0 k).2.2.1 = some (tyX0 k) := by decide +kernel
def RX1 : String := "FeltHarness$Coach"
def TX1 : u_T := fun k => match k with
  | 0 => ("FeltHarness$Coach", "inn", "LFeltHarness$House;", true)
  | 1 => ("FeltHarness$Coach", "rule", "LFeltHarness$Law;", true)
  | 2 => ("FeltHarness$Coach", "row", "[I", true)
  | 3 => ("FeltHarness$Coach", "near", "I", false)
  | _ => ("FeltHarness$Coach", "off", "I", false)
def tyX1 : Nat → FieldType := fun k => match k with
  | 0 => .object "FeltHarness$House"
  | 1 => .object "FeltHarness$Law"
  | 2 => .array .int
  | 3 => .int
  | _ => .int
theorem nmX1 : ∀ a, a < 5 → ∀ b, b < 5 → a ≠ b → (TX1 a).2.1 ≠ (TX1 b).2.1 := by decide +kernel
theorem tyX1_ok : ∀ k, k < 5 → parseFieldDescriptor (TX1 k).2.2.1 = some (tyX1 k) := by decide +kernel
def RX2 : String := "FeltHarness$Guess"
def TX2 : u_T := fun k => match k with
  | 0 => ("FeltHarness$Guess", "tired", "[I", true)
  | 1 => ("FeltHarness$Guess", "size", "I", false)
  | _ => ("FeltHarness$Guess", "first", "I", false)
def tyX2 : Nat → FieldType := fun k => match k with
  | 0 => .array .int
  | 1 => .int
  | _ => .int
theorem nmX2 : ∀ a, a < 3 → ∀ b, b < 3 → a ≠ b → (TX2 a).2.1 ≠ (TX2 b).2.1 := by decide +kernel
theorem tyX2_ok : ∀ k, k < 3 → parseFieldDescriptor (TX2 k).2.2.1 = some (tyX2 k) := by decide +kernel
def RX3 : String := "FeltHarness$House"
def TX3 : u_T := fun k => match k with
  | 0 => ("FeltHarness$House", "pull", "[I", true)
  | 1 => ("FeltHarness$House", "calm", "[I", true)
  | 2 => ("FeltHarness$House", "foes", "[I", true)
  | 3 => ("FeltHarness$House", "reach", "[I", true)
  | 4 => ("FeltHarness$House", "turn", "[I", true)
  | 5 => ("FeltHarness$House", "feelings", "I", false)
  | 6 => ("FeltHarness$House", "stages", "I", false)
  | _ => ("FeltHarness$House", "bears", "I", false)
def tyX3 : Nat → FieldType := fun k => match k with
  | 0 => .array .int
  | 1 => .array .int
  | 2 => .array .int
  | 3 => .array .int
  | 4 => .array .int
  | 5 => .int
  | 6 => .int
  | _ => .int
theorem nmX3 : ∀ a, a < 8 → ∀ b, b < 8 → a ≠ b → (TX3 a).2.1 ≠ (TX3 b).2.1 := by decide +kernel
theorem tyX3_ok : ∀ k, k < 8 → parseFieldDescriptor (TX3 k).2.2.1 = some (tyX3 k) := by decide +kernel
def RX4 : String := "FeltHarness$Law"
def TX4 : u_T := fun k => match k with
  | 0 => ("FeltHarness$Law", "code", "[I", true)
  | 1 => ("FeltHarness$Law", "drafted", "[I", true)
  | 2 => ("FeltHarness$Law", "variables", "[I", true)
  | 3 => ("FeltHarness$Law", "stack", "[I", true)
  | 4 => ("FeltHarness$Law", "size", "I", false)
  | _ => ("FeltHarness$Law", "draftSize", "I", false)
def tyX4 : Nat → FieldType := fun k => match k with
  | 0 => .array .int
  | 1 => .array .int
  | 2 => .array .int
  | 3 => .array .int
  | 4 => .int
  | _ => .int
theorem nmX4 : ∀ a, a < 6 → ∀ b, b < 6 → a ≠ b → (TX4 a).2.1 ≠ (TX4 b).2.1 := by decide +kernel
theorem tyX4_ok : ∀ k, k < 6 → parseFieldDescriptor (TX4 k).2.2.1 = some (tyX4 k) := by decide +kernel
def RX5 : String := "FeltHarness$Plan"
def TX5 : u_T := fun k => match k with
  | 0 => ("FeltHarness$Plan", "word", "[I", true)
  | 1 => ("FeltHarness$Plan", "one", "[I", true)
  | 2 => ("FeltHarness$Plan", "two", "[I", true)
  | 3 => ("FeltHarness$Plan", "ends", "[I", true)
  | 4 => ("FeltHarness$Plan", "feelings", "I", false)
  | 5 => ("FeltHarness$Plan", "size", "I", false)
  | 6 => ("FeltHarness$Plan", "begun", "I", false)
  | 7 => ("FeltHarness$Plan", "done", "I", false)
  | _ => ("FeltHarness$Plan", "refused", "I", false)
def tyX5 : Nat → FieldType := fun k => match k with
  | 0 => .array .int
  | 1 => .array .int
  | 2 => .array .int
  | 3 => .array .int
  | 4 => .int
  | 5 => .int
  | 6 => .int
  | 7 => .int
  | _ => .int
theorem nmX5 : ∀ a, a < 9 → ∀ b, b < 9 → a ≠ b → (TX5 a).2.1 ≠ (TX5 b).2.1 := by decide +kernel
theorem tyX5_ok : ∀ k, k < 9 → parseFieldDescriptor (TX5 k).2.2.1 = some (tyX5 k) := by decide +kernel
def RX6 : String := "FeltHarness$Search"
def TX6 : u_T := fun k => match k with
  | 0 => ("FeltHarness$Search", "forces", "[I", true)
  | 1 => ("FeltHarness$Search", "taken", "[I", true)
  | 2 => ("FeltHarness$Search", "best", "[I", true)
  | 3 => ("FeltHarness$Search", "bestStrength", "[I", true)
  | 4 => ("FeltHarness$Search", "bestTilt", "[I", true)
  | _ => ("FeltHarness$Search", "known", "I", false)
def tyX6 : Nat → FieldType := fun k => match k with
  | 0 => .array .int
  | 1 => .array .int
  | 2 => .array .int
  | 3 => .array .int
  | 4 => .array .int
  | _ => .int
theorem nmX6 : ∀ a, a < 6 → ∀ b, b < 6 → a ≠ b → (TX6 a).2.1 ≠ (TX6 b).2.1 := by decide +kernel
theorem tyX6_ok : ∀ k, k < 6 → parseFieldDescriptor (TX6 k).2.2.1 = some (tyX6 k) := by decide +kernel
def RX7 : String := "FeltHarness$Shelf"
def TX7 : u_T := fun k => match k with
  | 0 => ("FeltHarness$Shelf", "workRows", "[I", true)
  | 1 => ("FeltHarness$Shelf", "imageRows", "[I", true)
  | 2 => ("FeltHarness$Shelf", "imageWorks", "[I", true)
  | 3 => ("FeltHarness$Shelf", "works", "I", false)
  | _ => ("FeltHarness$Shelf", "images", "I", false)
def tyX7 : Nat → FieldType := fun k => match k with
  | 0 => .array .int
  | 1 => .array .int
  | 2 => .array .int
  | 3 => .int
  | _ => .int
theorem nmX7 : ∀ a, a < 5 → ∀ b, b < 5 → a ≠ b → (TX7 a).2.1 ≠ (TX7 b).2.1 := by decide +kernel
theorem tyX7_ok : ∀ k, k < 5 → parseFieldDescriptor (TX7 k).2.2.1 = some (tyX7 k) := by decide +kernel
def RX8 : String := "FeltHarness$Stable"
def TX8 : u_T := fun k => match k with
  | _ => ("FeltHarness$Stable", "box", "[I", true)
def tyX8 : Nat → FieldType := fun k => match k with
  | _ => .array .int
theorem nmX8 : ∀ a, a < 1 → ∀ b, b < 1 → a ≠ b → (TX8 a).2.1 ≠ (TX8 b).2.1 := by decide +kernel
theorem tyX8_ok : ∀ k, k < 1 → parseFieldDescriptor (TX8 k).2.2.1 = some (tyX8 k) := by decide +kernel
def RX9 : String := "FeltHarness$Text"
def TX9 : u_T := fun k => match k with
  | 0 => ("FeltHarness$Text", "bytes", "[B", true)
  | 1 => ("FeltHarness$Text", "held", "I", false)
  | 2 => ("FeltHarness$Text", "end", "I", false)
  | 3 => ("FeltHarness$Text", "next", "I", false)
  | 4 => ("FeltHarness$Text", "mark", "I", false)
  | 5 => ("FeltHarness$Text", "kind", "I", false)
  | _ => ("FeltHarness$Text", "spot", "I", false)
def tyX9 : Nat → FieldType := fun k => match k with
  | 0 => .array .byte
  | 1 => .int
  | 2 => .int
  | 3 => .int
  | 4 => .int
  | 5 => .int
  | _ => .int
theorem nmX9 : ∀ a, a < 7 → ∀ b, b < 7 → a ≠ b → (TX9 a).2.1 ≠ (TX9 b).2.1 := by decide +kernel
theorem tyX9_ok : ∀ k, k < 7 → parseFieldDescriptor (TX9 k).2.2.1 = some (tyX9 k) := by decide +kernel
def RX10 : String := "FeltHarness"
def TX10 : u_T := fun k => match k with
  | 0 => ("FeltHarness", "text", "LFeltHarness$Text;", true)
  | 1 => ("FeltHarness", "inn", "LFeltHarness$House;", true)
  | 2 => ("FeltHarness", "draft", "LFeltHarness$House;", true)
  | 3 => ("FeltHarness", "rule", "LFeltHarness$Law;", true)
  | 4 => ("FeltHarness", "lines", "LFeltHarness$Book;", true)
  | 5 => ("FeltHarness", "plan", "LFeltHarness$Plan;", true)
  | 6 => ("FeltHarness", "now", "LFeltHarness$Coach;", true)
  | 7 => ("FeltHarness", "trial", "LFeltHarness$Coach;", true)
  | 8 => ("FeltHarness", "shelf", "LFeltHarness$Shelf;", true)
  | 9 => ("FeltHarness", "search", "LFeltHarness$Search;", true)
  | 10 => ("FeltHarness", "boxes", "LFeltHarness$Stable;", true)
  | 11 => ("FeltHarness", "guess", "LFeltHarness$Guess;", true)
  | 12 => ("FeltHarness", "seedNow", "I", false)
  | 13 => ("FeltHarness", "refusedSteps", "I", false)
  | 14 => ("FeltHarness", "noSuch", "I", false)
  | _ => ("FeltHarness", "illegal", "I", false)
def tyX10 : Nat → FieldType := fun k => match k with
  | 0 => .object "FeltHarness$Text"
  | 1 => .object "FeltHarness$House"
  | 2 => .object "FeltHarness$House"
  | 3 => .object "FeltHarness$Law"
  | 4 => .object "FeltHarness$Book"
  | 5 => .object "FeltHarness$Plan"
  | 6 => .object "FeltHarness$Coach"
  | 7 => .object "FeltHarness$Coach"
  | 8 => .object "FeltHarness$Shelf"
  | 9 => .object "FeltHarness$Search"
  | 10 => .object "FeltHarness$Stable"
  | 11 => .object "FeltHarness$Guess"
  | 12 => .int
  | 13 => .int
  | 14 => .int
  | _ => .int
theorem nmX10 : ∀ a, a < 16 → ∀ b, b < 16 → a ≠ b → (TX10 a).2.1 ≠ (TX10 b).2.1 := by decide +kernel
theorem tyX10_ok : ∀ k, k < 16 → parseFieldDescriptor (TX10 k).2.2.1 = some (tyX10 k) := by decide +kernel
def RX11 : String := "FeltHarnessModel"
def TX11 : u_T := fun k => match k with
  | 0 => ("FeltHarnessModel", "thrown", "I", false)
  | 1 => ("FeltHarnessModel", "tape", "I", false)
  | 2 => ("FeltHarnessModel", "size", "I", false)
  | 3 => ("FeltHarnessModel", "place", "I", false)
  | 4 => ("FeltHarnessModel", "at", "I", false)
  | 5 => ("FeltHarnessModel", "fault", "I", false)
  | 6 => ("FeltHarnessModel", "faultAt", "I", false)
  | 7 => ("FeltHarnessModel", "clauses", "I", false)
  | 8 => ("FeltHarnessModel", "open", "I", false)
  | 9 => ("FeltHarnessModel", "fed", "[I", true)
  | 10 => ("FeltHarnessModel", "refused", "[I", true)
  | 11 => ("FeltHarnessModel", "readTold", "[I", true)
  | 12 => ("FeltHarnessModel", "told", "[I", true)
  | 13 => ("FeltHarnessModel", "readFeeling", "[[I", true)
  | 14 => ("FeltHarnessModel", "feeling", "[[I", true)
  | 15 => ("FeltHarnessModel", "readStage", "[[I", true)
  | 16 => ("FeltHarnessModel", "stage", "[[I", true)
  | 17 => ("FeltHarnessModel", "readClash", "[I", true)
  | 18 => ("FeltHarnessModel", "clash", "[I", true)
  | 19 => ("FeltHarnessModel", "lawMany", "I", false)
  | 20 => ("FeltHarnessModel", "readLawMany", "I", false)
  | 21 => ("FeltHarnessModel", "law", "[[I", true)
  | 22 => ("FeltHarnessModel", "readLaw", "[[I", true)
  | 23 => ("FeltHarnessModel", "line", "[[I", true)
  | 24 => ("FeltHarnessModel", "readLine", "[[I", true)
  | 25 => ("FeltHarnessModel", "stack", "[I", true)
  | 26 => ("FeltHarnessModel", "known", "[I", true)
  | 27 => ("FeltHarnessModel", "step", "[[I", true)
  | 28 => ("FeltHarnessModel", "steps", "I", false)
  | 29 => ("FeltHarnessModel", "now", "[I", true)
  | 30 => ("FeltHarnessModel", "trial", "[I", true)
  | 31 => ("FeltHarnessModel", "before", "[[I", true)
  | 32 => ("FeltHarnessModel", "kept", "[[I", true)
  | 33 => ("FeltHarnessModel", "lines", "I", false)
  | 34 => ("FeltHarnessModel", "works", "I", false)
  | 35 => ("FeltHarnessModel", "refusedSteps", "I", false)
  | 36 => ("FeltHarnessModel", "images", "I", false)
  | 37 => ("FeltHarnessModel", "spot", "I", false)
  | 38 => ("FeltHarnessModel", "begun", "I", false)
  | 39 => ("FeltHarnessModel", "doneSteps", "I", false)
  | 40 => ("FeltHarnessModel", "tried", "[I", true)
  | 41 => ("FeltHarnessModel", "best", "[I", true)
  | 42 => ("FeltHarnessModel", "mostStrength", "I", false)
  | 43 => ("FeltHarnessModel", "leastTilt", "I", false)
  | 44 => ("FeltHarnessModel", "stall", "[I", true)
  | 45 => ("FeltHarnessModel", "seen", "[I", true)
  | 46 => ("FeltHarnessModel", "exact", "[J", true)
  | _ => ("FeltHarnessModel", "lots", "I", false)
def tyX11 : Nat → FieldType := fun k => match k with
  | 0 => .int
  | 1 => .int
  | 2 => .int
  | 3 => .int
  | 4 => .int
  | 5 => .int
  | 6 => .int
  | 7 => .int
  | 8 => .int
  | 9 => .array .int
  | 10 => .array .int
  | 11 => .array .int
  | 12 => .array .int
  | 13 => .array (.array .int)
  | 14 => .array (.array .int)
  | 15 => .array (.array .int)
  | 16 => .array (.array .int)
  | 17 => .array .int
  | 18 => .array .int
  | 19 => .int
  | 20 => .int
  | 21 => .array (.array .int)
  | 22 => .array (.array .int)
  | 23 => .array (.array .int)
  | 24 => .array (.array .int)
  | 25 => .array .int
  | 26 => .array .int
  | 27 => .array (.array .int)
  | 28 => .int
  | 29 => .array .int
  | 30 => .array .int
  | 31 => .array (.array .int)
  | 32 => .array (.array .int)
  | 33 => .int
  | 34 => .int
  | 35 => .int
  | 36 => .int
  | 37 => .int
  | 38 => .int
  | 39 => .int
  | 40 => .array .int
  | 41 => .array .int
  | 42 => .int
  | 43 => .int
  | 44 => .array .int
  | 45 => .array .int
  | 46 => .array .long
  | _ => .int
theorem nmX11 : ∀ a, a < 48 → ∀ b, b < 48 → a ≠ b → (TX11 a).2.1 ≠ (TX11 b).2.1 := by decide +kernel
theorem tyX11_ok : ∀ k, k < 48 → parseFieldDescriptor (TX11 k).2.2.1 = some (tyX11 k) := by decide +kernel
abbrev m_cl : List vw_C := [(RX0, TX0, 3), (RX1, TX1, 5), (RX2, TX2, 3), (RX3, TX3, 8), (RX4, TX4, 6), (RX5, TX5, 9), (RX6, TX6, 6), (RX7, TX7, 5), (RX8, TX8, 1), (RX9, TX9, 7), (RX10, TX10, 16), (RX11, TX11, 48)]
def m_nf (ci : Nat) : Nat := [3, 5, 3, 8, 6, 9, 6, 5, 1, 7, 16, 48].getD ci 0
def m_ty (ci : Nat) : Nat → FieldType := [tyX0, tyX1, tyX2, tyX3, tyX4, tyX5, tyX6, tyX7, tyX8, tyX9, tyX10, tyX11].getD ci (fun _ => .int)
/-- is a field an int? -/
def m_fi (ci j : Nat) : Bool := match ci with
  | 0 => [false, false, true].getD j false
  | 1 => [false, false, false, true, true].getD j false
  | 2 => [false, true, true].getD j false
  | 3 => [false, false, false, false, false, true, true, true].getD j false
  | 4 => [false, false, false, false, true, true].getD j false
  | 5 => [false, false, false, false, true, true, true, true, true].getD j false
  | 6 => [false, false, false, false, false, true].getD j false
  | 7 => [false, false, false, true, true].getD j false
  | 8 => [false].getD j false
  | 9 => [false, true, true, true, true, true, true].getD j false
  | 10 => [false, false, false, false, false, false, false, false, false, false, false, false, true, true, true, true].getD j false
  | 11 => [true, true, true, true, true, true, true, true, true, false, false, false, false, false, false, false, false, false, false, true, true, false, false, false, false, false, false, false, true, false, false, false, false, true, true, true, true, true, true, true, false, false, true, true, false, false, false, true].getD j false
  | _ => false
def m_tb : List Cond := lw_tbl.filter goodWord
theorem m_tb_mem {i : Nat} {w : Cond} (h : lw_tbl[i]? = some w) (hg : goodWord w = true) : w ∈ m_tb := List.mem_filter.mpr ⟨List.mem_of_getElem? h, hg⟩
theorem m_in0 : ∀ w ∈ u_ws RX0 TX0 3, w ∈ m_tb := by
  have h : ∀ k : Fin 3, lw_tbl[[263, 265, 267].getD k.val 0]? = some (u_lay RX0 TX0 k.val) ∧ goodWord (u_lay RX0 TX0 k.val) = true := by decide +kernel
  intro w hw
  obtain ⟨k, hk, rfl⟩ := List.mem_map.mp hw
  exact m_tb_mem (h ⟨k, List.mem_range.mp hk⟩).1 (h ⟨k, List.mem_range.mp hk⟩).2
theorem m_in1 : ∀ w ∈ u_ws RX1 TX1 5, w ∈ m_tb := by
  have h : ∀ k : Fin 5, lw_tbl[[322, 324, 326, 328, 330].getD k.val 0]? = some (u_lay RX1 TX1 k.val) ∧ goodWord (u_lay RX1 TX1 k.val) = true := by decide +kernel
  intro w hw
  obtain ⟨k, hk, rfl⟩ := List.mem_map.mp hw
  exact m_tb_mem (h ⟨k, List.mem_range.mp hk⟩).1 (h ⟨k, List.mem_range.mp hk⟩).2
theorem m_in2 : ∀ w ∈ u_ws RX2 TX2 3, w ∈ m_tb := by
  have h : ∀ k : Fin 3, lw_tbl[[403, 405, 407].getD k.val 0]? = some (u_lay RX2 TX2 k.val) ∧ goodWord (u_lay RX2 TX2 k.val) = true := by decide +kernel
  intro w hw
  obtain ⟨k, hk, rfl⟩ := List.mem_map.mp hw
  exact m_tb_mem (h ⟨k, List.mem_range.mp hk⟩).1 (h ⟨k, List.mem_range.mp hk⟩).2
theorem m_in3 : ∀ w ∈ u_ws RX3 TX3 8, w ∈ m_tb := by
  have h : ∀ k : Fin 8, lw_tbl[[191, 193, 195, 197, 199, 201, 203, 205].getD k.val 0]? = some (u_lay RX3 TX3 k.val) ∧ goodWord (u_lay RX3 TX3 k.val) = true := by decide +kernel
  intro w hw
  obtain ⟨k, hk, rfl⟩ := List.mem_map.mp hw
  exact m_tb_mem (h ⟨k, List.mem_range.mp hk⟩).1 (h ⟨k, List.mem_range.mp hk⟩).2
theorem m_in4 : ∀ w ∈ u_ws RX4 TX4 6, w ∈ m_tb := by
  have h : ∀ k : Fin 6, lw_tbl[[236, 238, 240, 242, 244, 246].getD k.val 0]? = some (u_lay RX4 TX4 k.val) ∧ goodWord (u_lay RX4 TX4 k.val) = true := by decide +kernel
  intro w hw
  obtain ⟨k, hk, rfl⟩ := List.mem_map.mp hw
  exact m_tb_mem (h ⟨k, List.mem_range.mp hk⟩).1 (h ⟨k, List.mem_range.mp hk⟩).2
theorem m_in5 : ∀ w ∈ u_ws RX5 TX5 9, w ∈ m_tb := by
  have h : ∀ k : Fin 9, lw_tbl[[288, 290, 292, 294, 296, 298, 300, 302, 304].getD k.val 0]? = some (u_lay RX5 TX5 k.val) ∧ goodWord (u_lay RX5 TX5 k.val) = true := by decide +kernel
  intro w hw
  obtain ⟨k, hk, rfl⟩ := List.mem_map.mp hw
  exact m_tb_mem (h ⟨k, List.mem_range.mp hk⟩).1 (h ⟨k, List.mem_range.mp hk⟩).2
theorem m_in6 : ∀ w ∈ u_ws RX6 TX6 6, w ∈ m_tb := by
  have h : ∀ k : Fin 6, lw_tbl[[369, 371, 373, 375, 377, 379].getD k.val 0]? = some (u_lay RX6 TX6 k.val) ∧ goodWord (u_lay RX6 TX6 k.val) = true := by decide +kernel
  intro w hw
  obtain ⟨k, hk, rfl⟩ := List.mem_map.mp hw
  exact m_tb_mem (h ⟨k, List.mem_range.mp hk⟩).1 (h ⟨k, List.mem_range.mp hk⟩).2
theorem m_in7 : ∀ w ∈ u_ws RX7 TX7 5, w ∈ m_tb := by
  have h : ∀ k : Fin 5, lw_tbl[[346, 348, 350, 352, 354].getD k.val 0]? = some (u_lay RX7 TX7 k.val) ∧ goodWord (u_lay RX7 TX7 k.val) = true := by decide +kernel
  intro w hw
  obtain ⟨k, hk, rfl⟩ := List.mem_map.mp hw
  exact m_tb_mem (h ⟨k, List.mem_range.mp hk⟩).1 (h ⟨k, List.mem_range.mp hk⟩).2
theorem m_in8 : ∀ w ∈ u_ws RX8 TX8 1, w ∈ m_tb := by
  have h : ∀ k : Fin 1, lw_tbl[[389].getD k.val 0]? = some (u_lay RX8 TX8 k.val) ∧ goodWord (u_lay RX8 TX8 k.val) = true := by decide +kernel
  intro w hw
  obtain ⟨k, hk, rfl⟩ := List.mem_map.mp hw
  exact m_tb_mem (h ⟨k, List.mem_range.mp hk⟩).1 (h ⟨k, List.mem_range.mp hk⟩).2
theorem m_in9 : ∀ w ∈ u_ws RX9 TX9 7, w ∈ m_tb := by
  have h : ∀ k : Fin 7, lw_tbl[[151, 153, 155, 157, 159, 161, 163].getD k.val 0]? = some (u_lay RX9 TX9 k.val) ∧ goodWord (u_lay RX9 TX9 k.val) = true := by decide +kernel
  intro w hw
  obtain ⟨k, hk, rfl⟩ := List.mem_map.mp hw
  exact m_tb_mem (h ⟨k, List.mem_range.mp hk⟩).1 (h ⟨k, List.mem_range.mp hk⟩).2
theorem m_in10 : ∀ w ∈ u_ws RX10 TX10 16, w ∈ m_tb := by
  have h : ∀ k : Fin 16, lw_tbl[[430, 432, 434, 436, 438, 440, 442, 444, 446, 448, 450, 452, 454, 456, 458, 460].getD k.val 0]? = some (u_lay RX10 TX10 k.val) ∧ goodWord (u_lay RX10 TX10 k.val) = true := by decide +kernel
  intro w hw
  obtain ⟨k, hk, rfl⟩ := List.mem_map.mp hw
  exact m_tb_mem (h ⟨k, List.mem_range.mp hk⟩).1 (h ⟨k, List.mem_range.mp hk⟩).2
theorem m_in11 : ∀ w ∈ u_ws RX11 TX11 48, w ∈ m_tb := by
  have h : ∀ k : Fin 48, lw_tbl[[1501, 1503, 1505, 1507, 1509, 1511, 1513, 1515, 1517, 1519, 1521, 1523, 1525, 1527, 1529, 1531, 1533, 1535, 1537, 1539, 1541, 1543, 1545, 1547, 1549, 1551, 1553, 1555, 1557, 1559, 1561, 1563, 1565, 1567, 1569, 1571, 1573, 1575, 1577, 1579, 1581, 1583, 1585, 1587, 1589, 1591, 1593, 1595].getD k.val 0]? = some (u_lay RX11 TX11 k.val) ∧ goodWord (u_lay RX11 TX11 k.val) = true := by decide +kernel
  intro w hw
  obtain ⟨k, hk, rfl⟩ := List.mem_map.mp hw
  exact m_tb_mem (h ⟨k, List.mem_range.mp hk⟩).1 (h ⟨k, List.mem_range.mp hk⟩).2
/-- what is known of a class by its number -/
def m_CK (ci : Nat) (C : String) (T : u_T) (N : Nat) : Prop := (∀ w ∈ u_ws C T N, w ∈ m_tb) ∧ (∀ k, k < N → parseFieldDescriptor (T k).2.2.1 = some (m_ty ci k)) ∧ (∀ a, a < N → ∀ b, b < N → a ≠ b → (T a).2.1 ≠ (T b).2.1) ∧ m_nf ci = N ∧ (∀ k, k < N → m_fi ci k = true → m_ty ci k = .int) ∧ (∀ k, k < N → m_fi ci k = false → (∃ n, m_ty ci k = .object n) ∨ ∃ t, m_ty ci k = .array t)
theorem m_ck0 : m_CK 0 RX0 TX0 3 := by
  refine ⟨m_in0, tyX0_ok, nmX0, rfl, ?_, ?_⟩
  · decide +kernel
  · intro k hk h
    match k, hk, h with
    | 0, _, _ => exact Or.inr ⟨_, rfl⟩
    | 1, _, _ => exact Or.inr ⟨_, rfl⟩
    | 2, _, h => exact absurd h (by decide)
    | k + 3, hk, _ => omega
theorem m_ck1 : m_CK 1 RX1 TX1 5 := by
  refine ⟨m_in1, tyX1_ok, nmX1, rfl, ?_, ?_⟩
  · decide +kernel
  · intro k hk h
    match k, hk, h with
    | 0, _, _ => exact Or.inl ⟨_, rfl⟩
    | 1, _, _ => exact Or.inl ⟨_, rfl⟩
    | 2, _, _ => exact Or.inr ⟨_, rfl⟩
    | 3, _, h => exact absurd h (by decide)
    | 4, _, h => exact absurd h (by decide)
    | k + 5, hk, _ => omega
theorem m_ck2 : m_CK 2 RX2 TX2 3 := by
  refine ⟨m_in2, tyX2_ok, nmX2, rfl, ?_, ?_⟩
  · decide +kernel
  · intro k hk h
    match k, hk, h with
    | 0, _, _ => exact Or.inr ⟨_, rfl⟩
    | 1, _, h => exact absurd h (by decide)
    | 2, _, h => exact absurd h (by decide)
    | k + 3, hk, _ => omega
theorem m_ck3 : m_CK 3 RX3 TX3 8 := by
  refine ⟨m_in3, tyX3_ok, nmX3, rfl, ?_, ?_⟩
  · decide +kernel
  · intro k hk h
    match k, hk, h with
    | 0, _, _ => exact Or.inr ⟨_, rfl⟩
    | 1, _, _ => exact Or.inr ⟨_, rfl⟩
    | 2, _, _ => exact Or.inr ⟨_, rfl⟩
    | 3, _, _ => exact Or.inr ⟨_, rfl⟩
    | 4, _, _ => exact Or.inr ⟨_, rfl⟩
    | 5, _, h => exact absurd h (by decide)
    | 6, _, h => exact absurd h (by decide)
    | 7, _, h => exact absurd h (by decide)
    | k + 8, hk, _ => omega
theorem m_ck4 : m_CK 4 RX4 TX4 6 := by
  refine ⟨m_in4, tyX4_ok, nmX4, rfl, ?_, ?_⟩
  · decide +kernel
  · intro k hk h
    match k, hk, h with
    | 0, _, _ => exact Or.inr ⟨_, rfl⟩
    | 1, _, _ => exact Or.inr ⟨_, rfl⟩
    | 2, _, _ => exact Or.inr ⟨_, rfl⟩
    | 3, _, _ => exact Or.inr ⟨_, rfl⟩
    | 4, _, h => exact absurd h (by decide)
    | 5, _, h => exact absurd h (by decide)
    | k + 6, hk, _ => omega
theorem m_ck5 : m_CK 5 RX5 TX5 9 := by
  refine ⟨m_in5, tyX5_ok, nmX5, rfl, ?_, ?_⟩
  · decide +kernel
  · intro k hk h
    match k, hk, h with
    | 0, _, _ => exact Or.inr ⟨_, rfl⟩
    | 1, _, _ => exact Or.inr ⟨_, rfl⟩
    | 2, _, _ => exact Or.inr ⟨_, rfl⟩
    | 3, _, _ => exact Or.inr ⟨_, rfl⟩
    | 4, _, h => exact absurd h (by decide)
    | 5, _, h => exact absurd h (by decide)
    | 6, _, h => exact absurd h (by decide)
    | 7, _, h => exact absurd h (by decide)
    | 8, _, h => exact absurd h (by decide)
    | k + 9, hk, _ => omega
theorem m_ck6 : m_CK 6 RX6 TX6 6 := by
  refine ⟨m_in6, tyX6_ok, nmX6, rfl, ?_, ?_⟩
  · decide +kernel
  · intro k hk h
    match k, hk, h with
    | 0, _, _ => exact Or.inr ⟨_, rfl⟩
    | 1, _, _ => exact Or.inr ⟨_, rfl⟩
    | 2, _, _ => exact Or.inr ⟨_, rfl⟩
    | 3, _, _ => exact Or.inr ⟨_, rfl⟩
    | 4, _, _ => exact Or.inr ⟨_, rfl⟩
    | 5, _, h => exact absurd h (by decide)
    | k + 6, hk, _ => omega
theorem m_ck7 : m_CK 7 RX7 TX7 5 := by
  refine ⟨m_in7, tyX7_ok, nmX7, rfl, ?_, ?_⟩
  · decide +kernel
  · intro k hk h
    match k, hk, h with
    | 0, _, _ => exact Or.inr ⟨_, rfl⟩
    | 1, _, _ => exact Or.inr ⟨_, rfl⟩
    | 2, _, _ => exact Or.inr ⟨_, rfl⟩
    | 3, _, h => exact absurd h (by decide)
    | 4, _, h => exact absurd h (by decide)
    | k + 5, hk, _ => omega
theorem m_ck8 : m_CK 8 RX8 TX8 1 := by
  refine ⟨m_in8, tyX8_ok, nmX8, rfl, ?_, ?_⟩
  · decide +kernel
  · intro k hk h
    match k, hk, h with
    | 0, _, _ => exact Or.inr ⟨_, rfl⟩
    | k + 1, hk, _ => omega
theorem m_ck9 : m_CK 9 RX9 TX9 7 := by
  refine ⟨m_in9, tyX9_ok, nmX9, rfl, ?_, ?_⟩
  · decide +kernel
  · intro k hk h
    match k, hk, h with
    | 0, _, _ => exact Or.inr ⟨_, rfl⟩
    | 1, _, h => exact absurd h (by decide)
    | 2, _, h => exact absurd h (by decide)
    | 3, _, h => exact absurd h (by decide)
    | 4, _, h => exact absurd h (by decide)
    | 5, _, h => exact absurd h (by decide)
    | 6, _, h => exact absurd h (by decide)
    | k + 7, hk, _ => omega
theorem m_ck10 : m_CK 10 RX10 TX10 16 := by
  refine ⟨m_in10, tyX10_ok, nmX10, rfl, ?_, ?_⟩
  · decide +kernel
  · intro k hk h
    match k, hk, h with
    | 0, _, _ => exact Or.inl ⟨_, rfl⟩
    | 1, _, _ => exact Or.inl ⟨_, rfl⟩
    | 2, _, _ => exact Or.inl ⟨_, rfl⟩
    | 3, _, _ => exact Or.inl ⟨_, rfl⟩
    | 4, _, _ => exact Or.inl ⟨_, rfl⟩
    | 5, _, _ => exact Or.inl ⟨_, rfl⟩
    | 6, _, _ => exact Or.inl ⟨_, rfl⟩
    | 7, _, _ => exact Or.inl ⟨_, rfl⟩
    | 8, _, _ => exact Or.inl ⟨_, rfl⟩
    | 9, _, _ => exact Or.inl ⟨_, rfl⟩
    | 10, _, _ => exact Or.inl ⟨_, rfl⟩
    | 11, _, _ => exact Or.inl ⟨_, rfl⟩
    | 12, _, h => exact absurd h (by decide)
    | 13, _, h => exact absurd h (by decide)
    | 14, _, h => exact absurd h (by decide)
    | 15, _, h => exact absurd h (by decide)
    | k + 16, hk, _ => omega
theorem m_ck11 : m_CK 11 RX11 TX11 48 := by
  refine ⟨m_in11, tyX11_ok, nmX11, rfl, ?_, ?_⟩
  · decide +kernel
  · intro k hk h
    match k, hk, h with
    | 0, _, h => exact absurd h (by decide)
    | 1, _, h => exact absurd h (by decide)
    | 2, _, h => exact absurd h (by decide)
    | 3, _, h => exact absurd h (by decide)
    | 4, _, h => exact absurd h (by decide)
    | 5, _, h => exact absurd h (by decide)
    | 6, _, h => exact absurd h (by decide)
    | 7, _, h => exact absurd h (by decide)
    | 8, _, h => exact absurd h (by decide)
    | 9, _, _ => exact Or.inr ⟨_, rfl⟩
    | 10, _, _ => exact Or.inr ⟨_, rfl⟩
    | 11, _, _ => exact Or.inr ⟨_, rfl⟩
    | 12, _, _ => exact Or.inr ⟨_, rfl⟩
    | 13, _, _ => exact Or.inr ⟨_, rfl⟩
    | 14, _, _ => exact Or.inr ⟨_, rfl⟩
    | 15, _, _ => exact Or.inr ⟨_, rfl⟩
    | 16, _, _ => exact Or.inr ⟨_, rfl⟩
    | 17, _, _ => exact Or.inr ⟨_, rfl⟩
    | 18, _, _ => exact Or.inr ⟨_, rfl⟩
    | 19, _, h => exact absurd h (by decide)
    | 20, _, h => exact absurd h (by decide)
    | 21, _, _ => exact Or.inr ⟨_, rfl⟩
    | 22, _, _ => exact Or.inr ⟨_, rfl⟩
    | 23, _, _ => exact Or.inr ⟨_, rfl⟩
    | 24, _, _ => exact Or.inr ⟨_, rfl⟩
    | 25, _, _ => exact Or.inr ⟨_, rfl⟩
    | 26, _, _ => exact Or.inr ⟨_, rfl⟩
    | 27, _, _ => exact Or.inr ⟨_, rfl⟩
    | 28, _, h => exact absurd h (by decide)
    | 29, _, _ => exact Or.inr ⟨_, rfl⟩
    | 30, _, _ => exact Or.inr ⟨_, rfl⟩
    | 31, _, _ => exact Or.inr ⟨_, rfl⟩
    | 32, _, _ => exact Or.inr ⟨_, rfl⟩
    | 33, _, h => exact absurd h (by decide)
    | 34, _, h => exact absurd h (by decide)
    | 35, _, h => exact absurd h (by decide)
    | 36, _, h => exact absurd h (by decide)
    | 37, _, h => exact absurd h (by decide)
    | 38, _, h => exact absurd h (by decide)
    | 39, _, h => exact absurd h (by decide)
    | 40, _, _ => exact Or.inr ⟨_, rfl⟩
    | 41, _, _ => exact Or.inr ⟨_, rfl⟩
    | 42, _, h => exact absurd h (by decide)
    | 43, _, h => exact absurd h (by decide)
    | 44, _, _ => exact Or.inr ⟨_, rfl⟩
    | 45, _, _ => exact Or.inr ⟨_, rfl⟩
    | 46, _, _ => exact Or.inr ⟨_, rfl⟩
    | 47, _, h => exact absurd h (by decide)
    | k + 48, hk, _ => omega
theorem m_ck {ci : Nat} {C : String} {T : u_T} {N : Nat} (h : m_cl[ci]? = some (C, T, N)) : m_CK ci C T N := by
  match ci, h with
  | 0, h => cases h; exact m_ck0
  | 1, h => cases h; exact m_ck1
  | 2, h => cases h; exact m_ck2
  | 3, h => cases h; exact m_ck3
  | 4, h => cases h; exact m_ck4
  | 5, h => cases h; exact m_ck5
  | 6, h => cases h; exact m_ck6
  | 7, h => cases h; exact m_ck7
  | 8, h => cases h; exact m_ck8
  | 9, h => cases h; exact m_ck9
  | 10, h => cases h; exact m_ck10
  | 11, h => cases h; exact m_ck11
  | ci + 12, h => simp [m_cl] at h
/-! ===== the layout: kinds of cells in the order of their making: 1 ints, 2 bytes, 3 longs, 4 rows of ints, 10.. objects, 0 nothing known; above 1000000 the texts, their bytes, the script ===== -/
def m_K1 (c : Nat) : Nat × Nat := (if c < 46 then (if c < 28 then (if c < 13 then (if c < 4 then (if c < 2 then (if c < 1 then (20, 16) else (19, 7)) else (if c < 3 then (2, 600) else (13, 8))) else (if c < 9 then (if c < 7 then (1, 8) else (1, 6)) else (if c < 10 then (13, 8) else (1, 8)))) else (if c < 19 then (if c < 16 then (if c < 15 then (1, 6) else (14, 6)) else (if c < 18 then (1, 150) else (1, 8))) else (if c < 21 then (if c < 20 then (1, 24) else (10, 3)) else (if c < 23 then (1, 8) else (if c < 24 then (15, 9) else (1, 30)))))) else (if c < 36 then (if c < 32 then (if c < 30 then (if c < 29 then (11, 5) else (1, 29)) else (if c < 31 then (11, 5) else (1, 29))) else (if c < 34 then (if c < 33 then (17, 5) else (1, 464)) else (if c < 35 then (1, 1479) else (1, 3)))) else (if c < 40 then (if c < 38 then (if c < 37 then (16, 6) else (1, 128)) else (if c < 39 then (1, 4) else (1, 24))) else (if c < 43 then (if c < 42 then (1, 6) else (18, 1)) else (if c < 44 then (1, 8) else (if c < 45 then (12, 3) else (1, 192))))))) else (if c < 407 then (if c < 69 then (if c < 51 then (if c < 48 then (if c < 47 then (21, 48) else (1, 600)) else (if c < 49 then (1, 2) else (1, 3))) else (if c < 60 then (if c < 52 then (4, 8) else (1, 2)) else (if c < 61 then (4, 8) else (1, 2)))) else (if c < 83 then (if c < 76 then (if c < 70 then (4, 6) else (1, 2)) else (if c < 77 then (4, 6) else (1, 2))) else (if c < 86 then (if c < 85 then (1, 8) else (4, 160)) else (if c < 246 then (1, 2) else (if c < 247 then (4, 160) else (1, 2)))))) else (if c < 510 then (if c < 425 then (if c < 416 then (if c < 408 then (4, 8) else (1, 2)) else (if c < 417 then (4, 8) else (1, 2))) else (if c < 427 then (if c < 426 then (1, 160) else (1, 8)) else (if c < 428 then (4, 80) else (if c < 508 then (1, 4) else (1, 29))))) else (if c < 531 then (if c < 527 then (if c < 511 then (4, 16) else (1, 29)) else (if c < 528 then (4, 3) else (1, 494))) else (if c < 534 then (if c < 533 then (1, 4) else (1, 8)) else (if c < 535 then (1, 1000) else (if c < 536 then (3, 14) else (3, 1))))))))
def m_str (k : Nat) : List Int32 := [[110, 111, 32, 115, 117, 99, 104, 32, 102, 101, 101, 108, 105, 110, 103], [110, 111, 32, 115, 117, 99, 104, 32, 115, 116, 97, 103, 101], [97, 110, 32, 97, 114, 103, 117, 109, 101, 110, 116, 32, 105, 115, 32, 111, 117, 116, 32, 111, 102, 32, 105, 116, 115, 32, 98, 111, 117, 110, 100, 115], [102, 101, 101, 108, 105, 110, 103, 32, 99, 108, 97, 115, 104, 32, 115, 116, 97, 103, 101, 32, 98, 101, 97, 114, 115, 32], [112, 117, 108, 108, 32, 115, 116, 101, 97, 100, 121, 32, 116, 105, 103, 104, 116, 32, 116, 105, 114, 101, 100, 32, 112, 108, 97, 99, 101, 32, 115, 116, 97, 103, 101, 32, 116, 101, 97, 109, 32, 100, 97, 121, 32, 108, 101, 97, 115, 116, 32, 109, 111, 115, 116, 32], [112, 117, 116, 32, 111, 117, 116, 32, 100, 114, 97, 119, 32, 100, 114, 105, 118, 101, 32, 104, 111, 109, 101, 32, 114, 101, 115, 116, 32, 97, 103, 97, 105, 110, 32]].getD k []
def m_K2 (c : Nat) : Nat × Nat := if c < 1000000 then (0, 0) else if c < 1000006 then (22, 2) else if c < 1000100 then (0, 0) else if c < 1000106 then (6, (m_str (c - 1000100)).length) else if c = 2000000 then (7, 0) else (0, 0)
def m_K (c : Nat) : Nat × Nat := if c < 537 then m_K1 c else m_K2 c
/-- recursion that is left, length of the script, script -/
abbrev MEnv : Type := Nat × Nat × (Nat → Int32)
abbrev MHR : Type := Option (List Value × MH)
def h_get (info : List Nat) (st : List Value) (h : MH) : MHR := match info, st with
  | ci :: j :: _, .ref c :: r => if m_K c = (10 + ci, m_nf ci) ∧ j < m_nf ci then some ((if m_fi ci j = true then .int (h.2.2.2.1 c j) else va_rf (h.2.2.1 c j)) :: r, h) else if m_K c = (22, 2) ∧ ci = 12 then (if j = 0 then some (.ref (c + 100) :: r, h) else if j = 1 then some (.int 0 :: r, h) else none) else none
  | _, _ => none
def h_put (info : List Nat) (st : List Value) (h : MH) : MHR := match info, st with
  | ci :: j :: _, .int x :: .ref c :: r => if m_K c = (10 + ci, m_nf ci) ∧ j < m_nf ci ∧ m_fi ci j = true then some (r, (h.1, h.2.1, h.2.2.1, m_up h.2.2.2.1 c j x, h.2.2.2.2)) else none
  | ci :: j :: _, .ref d :: .ref c :: r => if m_K c = (10 + ci, m_nf ci) ∧ j < m_nf ci ∧ m_fi ci j = false then some (r, (h.1, h.2.1, m_up h.2.2.1 c j (some d), h.2.2.2.1, h.2.2.2.2)) else none
  | _, _ => none
def h_iald (E : MEnv) (st : List Value) (h : MH) : MHR := match st with
  | .int i :: .ref c :: r => if (m_K c).1 = 1 then (if i < 0 ∨ (m_K c).2 ≤ i.toNatClampNeg then none else some (.int (h.2.2.2.1 c i.toNatClampNeg) :: r, h)) else if c = 2000000 then (if i < 0 ∨ E.2.1 ≤ i.toNatClampNeg then none else some (.int (E.2.2 i.toNatClampNeg) :: r, h)) else none
  | _ => none
def h_bald (st : List Value) (h : MH) : MHR := match st with
  | .int i :: .ref c :: r => if (m_K c).1 = 2 then (if i < 0 ∨ (m_K c).2 ≤ i.toNatClampNeg then none else some (.int (h.2.2.2.1 c i.toNatClampNeg) :: r, h)) else if (m_K c).1 = 6 then (if i < 0 ∨ (m_K c).2 ≤ i.toNatClampNeg then none else some (.int ((m_str (c - 1000100)).getD i.toNatClampNeg 0) :: r, h)) else none
  | _ => none
def h_lald (st : List Value) (h : MH) : MHR := match st with
  | .int i :: .ref c :: r => if (m_K c).1 = 3 then (if i < 0 ∨ (m_K c).2 ≤ i.toNatClampNeg then none else some (.long (h.2.2.2.2 c i.toNatClampNeg) :: r, h)) else none
  | _ => none
def h_aald (st : List Value) (h : MH) : MHR := match st with
  | .int i :: .ref c :: r => if (m_K c).1 = 4 then (if i < 0 ∨ (m_K c).2 ≤ i.toNatClampNeg then none else some (va_rf (h.2.2.1 c i.toNatClampNeg) :: r, h)) else none
  | _ => none
def h_iast (st : List Value) (h : MH) : MHR := match st with
  | .int x :: .int i :: .ref c :: r => if (m_K c).1 = 1 then (if i < 0 ∨ (m_K c).2 ≤ i.toNatClampNeg then none else some (r, (h.1, h.2.1, h.2.2.1, m_up h.2.2.2.1 c i.toNatClampNeg x, h.2.2.2.2))) else none
  | _ => none
def h_bast (st : List Value) (h : MH) : MHR := match st with
  | .int x :: .int i :: .ref c :: r => if (m_K c).1 = 2 then (if i < 0 ∨ (m_K c).2 ≤ i.toNatClampNeg then none else some (r, (h.1, h.2.1, h.2.2.1, m_up h.2.2.2.1 c i.toNatClampNeg x.toInt8.toInt32, h.2.2.2.2))) else none
  | _ => none
def h_last (st : List Value) (h : MH) : MHR := match st with
  | .long x :: .int i :: .ref c :: r => if (m_K c).1 = 3 then (if i < 0 ∨ (m_K c).2 ≤ i.toNatClampNeg then none else some (r, (h.1, h.2.1, h.2.2.1, h.2.2.2.1, m_up h.2.2.2.2 c i.toNatClampNeg x))) else none
  | _ => none
def h_alen (E : MEnv) (st : List Value) (h : MH) : MHR := match st with
  | .ref c :: r => if (m_K c).1 = 1 ∨ (m_K c).1 = 2 ∨ (m_K c).1 = 3 ∨ (m_K c).1 = 4 ∨ (m_K c).1 = 6 then some (.int (Int32.ofNat (m_K c).2) :: r, h) else if c = 2000000 then some (.int (Int32.ofNat E.2.1) :: r, h) else none
  | _ => none
def h_ldc (info : List Nat) (st : List Value) (h : MH) : MHR := match info with
  | 0 :: v :: _ => some (.int (Int32.ofNat v) :: st, h)
  | 1 :: k :: _ => if k < 6 then some (.ref (1000000 + k) :: st, h) else none
  | _ => none
def h_gst (info : List Nat) (st : List Value) (h : MH) : MHR := match info with
  | 0 :: _ => some (.int 1 :: st, h)
  | 1 :: _ => some (.retAddr 0 :: st, h)
  | _ => none
def h_newa (t : ArrayType) (st : List Value) (h : MH) : MHR := match st with
  | .int n :: r => if ¬ n < 0 ∧ h.1 < 1000000 ∧ n.toNatClampNeg ≤ 100000 ∧ ((t = .int ∧ m_K h.1 = (1, n.toNatClampNeg)) ∨ (t = .byte ∧ m_K h.1 = (2, n.toNatClampNeg)) ∨ (t = .long ∧ m_K h.1 = (3, n.toNatClampNeg))) then some (.ref h.1 :: r, (h.1 + 1, h.2.1 + n.toNatClampNeg, h.2.2.1, m_row h.2.2.2.1 h.1 (fun _ => 0), m_row h.2.2.2.2 h.1 (fun _ => 0))) else none
  | _ => none
def h_mna (st : List Value) (h : MH) : MHR := match st with
  | .int k :: .int n :: r => if ¬ n < 0 ∧ ¬ k < 0 ∧ h.1 + 1 + n.toNatClampNeg < 1000000 ∧ n.toNatClampNeg ≤ 100000 ∧ k.toNatClampNeg ≤ 100000 ∧ m_K h.1 = (4, n.toNatClampNeg) ∧ (List.range n.toNatClampNeg).all (fun i => decide (m_K (h.1 + 1 + i) = (1, k.toNatClampNeg))) = true then
      some (.ref h.1 :: r, (h.1 + (1 + n.toNatClampNeg), h.2.1 + (n.toNatClampNeg + n.toNatClampNeg * k.toNatClampNeg), m_row h.2.2.1 h.1 (fun j => if j < n.toNatClampNeg then some (h.1 + 1 + j) else none), (fun c => if h.1 ≤ c ∧ c < h.1 + 1 + n.toNatClampNeg then (fun _ => 0) else h.2.2.2.1 c), h.2.2.2.2)) else none
  | _ => none
def h_new (info : List Nat) (st : List Value) (h : MH) : MHR := match info with
  | ci :: _ => if h.1 < 1000000 ∧ m_K h.1 = (10 + ci, m_nf ci) ∧ ci < 12 then some (.ref h.1 :: st, (h.1 + 1, h.2.1 + m_nf ci, m_row h.2.2.1 h.1 (fun _ => none), m_row h.2.2.2.1 h.1 (fun _ => 0), h.2.2.2.2)) else none
  | _ => none
/-- steps that touch the heap -/
def m_heap (E : MEnv) (ins : Instr) (info : List Nat) (st : List Value) (h : MH) : MHR := match ins with
  | .getfield _ => h_get info st h
  | .putfield _ => h_put info st h
  | .iaload => h_iald E st h
  | .baload => h_bald st h
  | .laload => h_lald st h
  | .aaload => h_aald st h
  | .iastore => h_iast st h
  | .bastore => h_bast st h
  | .lastore => h_last st h
  | .arraylength => h_alen E st h
  | .ldc _ => h_ldc info st h
  | .ldc_w _ => h_ldc info st h
  | .getstatic _ => h_gst info st h
  | .newarray t => h_newa t st h
  | .multianewarray _ _ => h_mna st h
  | .new _ => h_new info st h
  | _ => none
/-- System.arraycopy of ints from one cell to another -/
def m_copy (st : List Value) (h : MH) : MHR := match st with
  | .int n :: .int dp :: .ref d :: .int sp :: .ref c :: r => if (m_K c).1 = 1 ∧ (m_K d).1 = 1 ∧ ¬ sp < 0 ∧ ¬ dp < 0 ∧ ¬ n < 0 ∧ sp.toNatClampNeg + n.toNatClampNeg ≤ (m_K c).2 ∧ dp.toNatClampNeg + n.toNatClampNeg ≤ (m_K d).2 then
      some (r, (h.1, h.2.1, h.2.2.1, m_row h.2.2.2.1 d (va_cpy (h.2.2.2.1 c) (h.2.2.2.1 d) sp.toNatClampNeg dp.toNatClampNeg n.toNatClampNeg), h.2.2.2.2)) else none
  | _ => none
