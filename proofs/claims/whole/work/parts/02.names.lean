def F_Row : u_T := fun k => match k with
  | 0 => ("UpcastStreams$Row", "types", "[I", true)
  | 1 => ("UpcastStreams$Row", "forms", "[I", true)
  | 2 => ("UpcastStreams$Row", "as", "[I", true)
  | 3 => ("UpcastStreams$Row", "bs", "[I", true)
  | _ => ("UpcastStreams$Row", "size", "I", false)
def t_Row : Nat → FieldType := fun k => match k with
  | 0 => .array .int
  | 1 => .array .int
  | 2 => .array .int
  | 3 => .array .int
  | _ => .int
theorem n_Row : ∀ a, a < 5 → ∀ b, b < 5 → a ≠ b → (F_Row a).2.1 ≠ (F_Row b).2.1 := by decide +kernel
theorem t_Row_ok : ∀ k, k < 5 → parseFieldDescriptor (F_Row k).2.2.1 = some (t_Row k) := by decide +kernel
theorem in_Row : ∀ w ∈ u_ws "UpcastStreams$Row" F_Row 5, w ∈ usW := by
  intro w hw
  have e : u_ws "UpcastStreams$Row" F_Row 5 = [Cond.laysFinal "UpcastStreams$Row" "UpcastStreams$Row" "types" "[I", Cond.laysFinal "UpcastStreams$Row" "UpcastStreams$Row" "forms" "[I", Cond.laysFinal "UpcastStreams$Row" "UpcastStreams$Row" "as" "[I", Cond.laysFinal "UpcastStreams$Row" "UpcastStreams$Row" "bs" "[I", Cond.lays "UpcastStreams$Row" "UpcastStreams$Row" "size" "I"] := by rfl
  rw [e] at hw
  simp only [List.mem_cons, List.not_mem_nil, or_false] at hw
  rcases hw with rfl | rfl | rfl | rfl | rfl
  · exact us_m1 63 rfl (by decide)
  · exact us_m1 65 rfl (by decide)
  · exact us_m1 67 rfl (by decide)
  · exact us_m1 69 rfl (by decide)
  · exact us_m1 71 rfl (by decide)
def F_State : u_T := fun k => match k with
  | 0 => ("UpcastStreams$State", "open", "Z", false)
  | 1 => ("UpcastStreams$State", "frozen", "Z", false)
  | 2 => ("UpcastStreams$State", "limit", "J", false)
  | 3 => ("UpcastStreams$State", "balance", "J", false)
  | 4 => ("UpcastStreams$State", "top", "J", false)
  | 5 => ("UpcastStreams$State", "moves", "J", false)
  | 6 => ("UpcastStreams$State", "odd", "J", false)
  | _ => ("UpcastStreams$State", "check", "J", false)
def t_State : Nat → FieldType := fun k => match k with
  | 0 => .boolean
  | 1 => .boolean
  | 2 => .long
  | 3 => .long
  | 4 => .long
  | 5 => .long
  | 6 => .long
  | _ => .long
theorem n_State : ∀ a, a < 8 → ∀ b, b < 8 → a ≠ b → (F_State a).2.1 ≠ (F_State b).2.1 := by decide +kernel
theorem t_State_ok : ∀ k, k < 8 → parseFieldDescriptor (F_State k).2.2.1 = some (t_State k) := by decide +kernel
theorem in_State : ∀ w ∈ u_ws "UpcastStreams$State" F_State 8, w ∈ usW := by
  intro w hw
  have e : u_ws "UpcastStreams$State" F_State 8 = [Cond.lays "UpcastStreams$State" "UpcastStreams$State" "open" "Z", Cond.lays "UpcastStreams$State" "UpcastStreams$State" "frozen" "Z", Cond.lays "UpcastStreams$State" "UpcastStreams$State" "limit" "J", Cond.lays "UpcastStreams$State" "UpcastStreams$State" "balance" "J", Cond.lays "UpcastStreams$State" "UpcastStreams$State" "top" "J", Cond.lays "UpcastStreams$State" "UpcastStreams$State" "moves" "J", Cond.lays "UpcastStreams$State" "UpcastStreams$State" "odd" "J", Cond.lays "UpcastStreams$State" "UpcastStreams$State" "check" "J"] := by rfl
  rw [e] at hw
  simp only [List.mem_cons, List.not_mem_nil, or_false] at hw
  rcases hw with rfl | rfl | rfl | rfl | rfl | rfl | rfl | rfl
  · exact us_m1 143 rfl (by decide)
  · exact us_m1 145 rfl (by decide)
  · exact us_m1 147 rfl (by decide)
  · exact us_m1 149 rfl (by decide)
  · exact us_m1 151 rfl (by decide)
  · exact us_m1 153 rfl (by decide)
  · exact us_m1 155 rfl (by decide)
  · exact us_m1 157 rfl (by decide)
def F_Reader : u_T := fun k => match k with
  | 0 => ("UpcastStreams$Reader", "cursor", "I", false)
  | 1 => ("UpcastStreams$Reader", "mark", "I", false)
  | 2 => ("UpcastStreams$Reader", "streams", "I", false)
  | _ => ("UpcastStreams$Reader", "types", "I", false)
def t_Reader : Nat → FieldType := fun k => match k with
  | 0 => .int
  | 1 => .int
  | 2 => .int
  | _ => .int
theorem n_Reader : ∀ a, a < 4 → ∀ b, b < 4 → a ≠ b → (F_Reader a).2.1 ≠ (F_Reader b).2.1 := by decide +kernel
theorem t_Reader_ok : ∀ k, k < 4 → parseFieldDescriptor (F_Reader k).2.2.1 = some (t_Reader k) := by decide +kernel
theorem in_Reader : ∀ w ∈ u_ws "UpcastStreams$Reader" F_Reader 4, w ∈ usW := by
  intro w hw
  have e : u_ws "UpcastStreams$Reader" F_Reader 4 = [Cond.lays "UpcastStreams$Reader" "UpcastStreams$Reader" "cursor" "I", Cond.lays "UpcastStreams$Reader" "UpcastStreams$Reader" "mark" "I", Cond.lays "UpcastStreams$Reader" "UpcastStreams$Reader" "streams" "I", Cond.lays "UpcastStreams$Reader" "UpcastStreams$Reader" "types" "I"] := by rfl
  rw [e] at hw
  simp only [List.mem_cons, List.not_mem_nil, or_false] at hw
  rcases hw with rfl | rfl | rfl | rfl
  · exact us_m1 186 rfl (by decide)
  · exact us_m1 188 rfl (by decide)
  · exact us_m1 190 rfl (by decide)
  · exact us_m1 192 rfl (by decide)
def F_Log : u_T := fun k => match k with
  | 0 => ("UpcastStreams$Log", "events", "LUpcastStreams$Row;", true)
  | 1 => ("UpcastStreams$Log", "streams", "[I", true)
  | 2 => ("UpcastStreams$Log", "numbers", "[I", true)
  | _ => ("UpcastStreams$Log", "versions", "[I", true)
def t_Log : Nat → FieldType := fun k => match k with
  | 0 => .object "UpcastStreams$Row"
  | 1 => .array .int
  | 2 => .array .int
  | _ => .array .int
theorem n_Log : ∀ a, a < 4 → ∀ b, b < 4 → a ≠ b → (F_Log a).2.1 ≠ (F_Log b).2.1 := by decide +kernel
theorem t_Log_ok : ∀ k, k < 4 → parseFieldDescriptor (F_Log k).2.2.1 = some (t_Log k) := by decide +kernel
theorem in_Log : ∀ w ∈ u_ws "UpcastStreams$Log" F_Log 4, w ∈ usW := by
  intro w hw
  have e : u_ws "UpcastStreams$Log" F_Log 4 = [Cond.laysFinal "UpcastStreams$Log" "UpcastStreams$Log" "events" "LUpcastStreams$Row;", Cond.laysFinal "UpcastStreams$Log" "UpcastStreams$Log" "streams" "[I", Cond.laysFinal "UpcastStreams$Log" "UpcastStreams$Log" "numbers" "[I", Cond.laysFinal "UpcastStreams$Log" "UpcastStreams$Log" "versions" "[I"] := by rfl
  rw [e] at hw
  simp only [List.mem_cons, List.not_mem_nil, or_false] at hw
  rcases hw with rfl | rfl | rfl | rfl
  · exact us_m1 91 rfl (by decide)
  · exact us_m1 93 rfl (by decide)
  · exact us_m1 95 rfl (by decide)
  · exact us_m1 97 rfl (by decide)
def F_Hand : u_T := fun k => match k with
  | 0 => ("UpcastStreams$Hand", "events", "LUpcastStreams$Row;", true)
  | 1 => ("UpcastStreams$Hand", "positions", "[I", true)
  | _ => ("UpcastStreams$Hand", "streams", "[I", true)
def t_Hand : Nat → FieldType := fun k => match k with
  | 0 => .object "UpcastStreams$Row"
  | 1 => .array .int
  | _ => .array .int
theorem n_Hand : ∀ a, a < 3 → ∀ b, b < 3 → a ≠ b → (F_Hand a).2.1 ≠ (F_Hand b).2.1 := by decide +kernel
theorem t_Hand_ok : ∀ k, k < 3 → parseFieldDescriptor (F_Hand k).2.2.1 = some (t_Hand k) := by decide +kernel
theorem in_Hand : ∀ w ∈ u_ws "UpcastStreams$Hand" F_Hand 3, w ∈ usW := by
  intro w hw
  have e : u_ws "UpcastStreams$Hand" F_Hand 3 = [Cond.laysFinal "UpcastStreams$Hand" "UpcastStreams$Hand" "events" "LUpcastStreams$Row;", Cond.laysFinal "UpcastStreams$Hand" "UpcastStreams$Hand" "positions" "[I", Cond.laysFinal "UpcastStreams$Hand" "UpcastStreams$Hand" "streams" "[I"] := by rfl
  rw [e] at hw
  simp only [List.mem_cons, List.not_mem_nil, or_false] at hw
  rcases hw with rfl | rfl | rfl
  · exact us_m1 207 rfl (by decide)
  · exact us_m1 209 rfl (by decide)
  · exact us_m1 211 rfl (by decide)
def F_Rules : u_T := fun k => match k with
  | 0 => ("UpcastStreams$Rules", "kinds", "[I", true)
  | 1 => ("UpcastStreams$Rules", "ks", "[I", true)
  | 2 => ("UpcastStreams$Rules", "coming", "LUpcastStreams$Row;", false)
  | _ => ("UpcastStreams$Rules", "older", "LUpcastStreams$Row;", false)
def t_Rules : Nat → FieldType := fun k => match k with
  | 0 => .array .int
  | 1 => .array .int
  | 2 => .object "UpcastStreams$Row"
  | _ => .object "UpcastStreams$Row"
theorem n_Rules : ∀ a, a < 4 → ∀ b, b < 4 → a ≠ b → (F_Rules a).2.1 ≠ (F_Rules b).2.1 := by decide +kernel
theorem t_Rules_ok : ∀ k, k < 4 → parseFieldDescriptor (F_Rules k).2.2.1 = some (t_Rules k) := by decide +kernel
theorem in_Rules : ∀ w ∈ u_ws "UpcastStreams$Rules" F_Rules 4, w ∈ usW := by
  intro w hw
  have e : u_ws "UpcastStreams$Rules" F_Rules 4 = [Cond.laysFinal "UpcastStreams$Rules" "UpcastStreams$Rules" "kinds" "[I", Cond.laysFinal "UpcastStreams$Rules" "UpcastStreams$Rules" "ks" "[I", Cond.lays "UpcastStreams$Rules" "UpcastStreams$Rules" "coming" "LUpcastStreams$Row;", Cond.lays "UpcastStreams$Rules" "UpcastStreams$Rules" "older" "LUpcastStreams$Row;"] := by rfl
  rw [e] at hw
  simp only [List.mem_cons, List.not_mem_nil, or_false] at hw
  rcases hw with rfl | rfl | rfl | rfl
  · exact us_m1 112 rfl (by decide)
  · exact us_m1 114 rfl (by decide)
  · exact us_m1 116 rfl (by decide)
  · exact us_m1 118 rfl (by decide)
def F_Shelf : u_T := fun k => match k with
  | 0 => ("UpcastStreams$Shelf", "later", "LUpcastStreams$State;", false)
  | 1 => ("UpcastStreams$Shelf", "earlier", "LUpcastStreams$State;", false)
  | 2 => ("UpcastStreams$Shelf", "laterVersion", "I", false)
  | _ => ("UpcastStreams$Shelf", "earlierVersion", "I", false)
def t_Shelf : Nat → FieldType := fun k => match k with
  | 0 => .object "UpcastStreams$State"
  | 1 => .object "UpcastStreams$State"
  | 2 => .int
  | _ => .int
theorem n_Shelf : ∀ a, a < 4 → ∀ b, b < 4 → a ≠ b → (F_Shelf a).2.1 ≠ (F_Shelf b).2.1 := by decide +kernel
theorem t_Shelf_ok : ∀ k, k < 4 → parseFieldDescriptor (F_Shelf k).2.2.1 = some (t_Shelf k) := by decide +kernel
theorem in_Shelf : ∀ w ∈ u_ws "UpcastStreams$Shelf" F_Shelf 4, w ∈ usW := by
  intro w hw
  have e : u_ws "UpcastStreams$Shelf" F_Shelf 4 = [Cond.lays "UpcastStreams$Shelf" "UpcastStreams$Shelf" "later" "LUpcastStreams$State;", Cond.lays "UpcastStreams$Shelf" "UpcastStreams$Shelf" "earlier" "LUpcastStreams$State;", Cond.lays "UpcastStreams$Shelf" "UpcastStreams$Shelf" "laterVersion" "I", Cond.lays "UpcastStreams$Shelf" "UpcastStreams$Shelf" "earlierVersion" "I"] := by rfl
  rw [e] at hw
  simp only [List.mem_cons, List.not_mem_nil, or_false] at hw
  rcases hw with rfl | rfl | rfl | rfl
  · exact us_m1 164 rfl (by decide)
  · exact us_m1 166 rfl (by decide)
  · exact us_m1 168 rfl (by decide)
  · exact us_m1 170 rfl (by decide)
def F_X : u_T := fun k => match k with
  | 0 => ("UpcastStreams", "period", "I", true)
  | 1 => ("UpcastStreams", "batch", "LUpcastStreams$Row;", true)
  | 2 => ("UpcastStreams", "log", "LUpcastStreams$Log;", true)
  | 3 => ("UpcastStreams", "rules", "LUpcastStreams$Rules;", true)
  | 4 => ("UpcastStreams", "shelves", "[LUpcastStreams$Shelf;", true)
  | 5 => ("UpcastStreams", "readers", "[LUpcastStreams$Reader;", true)
  | 6 => ("UpcastStreams", "taken", "LUpcastStreams$Hand;", true)
  | 7 => ("UpcastStreams", "loaded", "LUpcastStreams$State;", true)
  | _ => ("UpcastStreams", "trial", "LUpcastStreams$State;", true)
def t_X : Nat → FieldType := fun k => match k with
  | 0 => .int
  | 1 => .object "UpcastStreams$Row"
  | 2 => .object "UpcastStreams$Log"
  | 3 => .object "UpcastStreams$Rules"
  | 4 => .array (.object "UpcastStreams$Shelf")
  | 5 => .array (.object "UpcastStreams$Reader")
  | 6 => .object "UpcastStreams$Hand"
  | 7 => .object "UpcastStreams$State"
  | _ => .object "UpcastStreams$State"
theorem n_X : ∀ a, a < 9 → ∀ b, b < 9 → a ≠ b → (F_X a).2.1 ≠ (F_X b).2.1 := by decide +kernel
theorem t_X_ok : ∀ k, k < 9 → parseFieldDescriptor (F_X k).2.2.1 = some (t_X k) := by decide +kernel
theorem in_X : ∀ w ∈ u_ws "UpcastStreams" F_X 9, w ∈ usW := by
  intro w hw
  have e : u_ws "UpcastStreams" F_X 9 = [Cond.laysFinal "UpcastStreams" "UpcastStreams" "period" "I", Cond.laysFinal "UpcastStreams" "UpcastStreams" "batch" "LUpcastStreams$Row;", Cond.laysFinal "UpcastStreams" "UpcastStreams" "log" "LUpcastStreams$Log;", Cond.laysFinal "UpcastStreams" "UpcastStreams" "rules" "LUpcastStreams$Rules;", Cond.laysFinal "UpcastStreams" "UpcastStreams" "shelves" "[LUpcastStreams$Shelf;", Cond.laysFinal "UpcastStreams" "UpcastStreams" "readers" "[LUpcastStreams$Reader;", Cond.laysFinal "UpcastStreams" "UpcastStreams" "taken" "LUpcastStreams$Hand;", Cond.laysFinal "UpcastStreams" "UpcastStreams" "loaded" "LUpcastStreams$State;", Cond.laysFinal "UpcastStreams" "UpcastStreams" "trial" "LUpcastStreams$State;"] := by rfl
  rw [e] at hw
  simp only [List.mem_cons, List.not_mem_nil, or_false] at hw
  rcases hw with rfl | rfl | rfl | rfl | rfl | rfl | rfl | rfl | rfl
  · exact us_m1 225 rfl (by decide)
  · exact us_m1 227 rfl (by decide)
  · exact us_m1 229 rfl (by decide)
  · exact us_m1 231 rfl (by decide)
  · exact us_m1 233 rfl (by decide)
  · exact us_m1 235 rfl (by decide)
  · exact us_m1 237 rfl (by decide)
  · exact us_m1 239 rfl (by decide)
  · exact us_m2 1 rfl (by decide)
def F_M : u_T := fun k => match k with
  | 0 => ("UpcastStreamsModel", "period", "I", true)
  | 1 => ("UpcastStreamsModel", "code", "I", false)
  | 2 => ("UpcastStreamsModel", "total", "I", false)
  | 3 => ("UpcastStreamsModel", "streams", "[I", true)
  | 4 => ("UpcastStreamsModel", "types", "[I", true)
  | 5 => ("UpcastStreamsModel", "forms", "[I", true)
  | 6 => ("UpcastStreamsModel", "as", "[I", true)
  | 7 => ("UpcastStreamsModel", "bs", "[I", true)
  | 8 => ("UpcastStreamsModel", "staged", "I", false)
  | 9 => ("UpcastStreamsModel", "kinds", "[I", true)
  | 10 => ("UpcastStreamsModel", "ks", "[I", true)
  | 11 => ("UpcastStreamsModel", "snapshots", "[I", true)
  | 12 => ("UpcastStreamsModel", "came", "I", false)
  | 13 => ("UpcastStreamsModel", "cameType", "[I", true)
  | 14 => ("UpcastStreamsModel", "cameA", "[I", true)
  | 15 => ("UpcastStreamsModel", "cameB", "[I", true)
  | 16 => ("UpcastStreamsModel", "open", "I", false)
  | 17 => ("UpcastStreamsModel", "openType", "[I", true)
  | 18 => ("UpcastStreamsModel", "openForm", "[I", true)
  | 19 => ("UpcastStreamsModel", "openA", "[I", true)
  | 20 => ("UpcastStreamsModel", "openB", "[I", true)
  | 21 => ("UpcastStreamsModel", "state", "[J", true)
  | 22 => ("UpcastStreamsModel", "loaded", "[J", true)
  | 23 => ("UpcastStreamsModel", "cursors", "[I", true)
  | 24 => ("UpcastStreamsModel", "marks", "[I", true)
  | 25 => ("UpcastStreamsModel", "streamSets", "[I", true)
  | 26 => ("UpcastStreamsModel", "typeSets", "[I", true)
  | 27 => ("UpcastStreamsModel", "held", "I", false)
  | _ => ("UpcastStreamsModel", "hand", "[I", true)
def t_M : Nat → FieldType := fun k => match k with
  | 0 => .int
  | 1 => .int
  | 2 => .int
  | 3 => .array .int
  | 4 => .array .int
  | 5 => .array .int
  | 6 => .array .int
  | 7 => .array .int
  | 8 => .int
  | 9 => .array .int
  | 10 => .array .int
  | 11 => .array .int
  | 12 => .int
  | 13 => .array .int
  | 14 => .array .int
  | 15 => .array .int
  | 16 => .int
  | 17 => .array .int
  | 18 => .array .int
  | 19 => .array .int
  | 20 => .array .int
  | 21 => .array .long
  | 22 => .array .long
  | 23 => .array .int
  | 24 => .array .int
  | 25 => .array .int
  | 26 => .array .int
  | 27 => .int
  | _ => .array .int
theorem n_M : ∀ a, a < 29 → ∀ b, b < 29 → a ≠ b → (F_M a).2.1 ≠ (F_M b).2.1 := by decide +kernel
theorem t_M_ok : ∀ k, k < 29 → parseFieldDescriptor (F_M k).2.2.1 = some (t_M k) := by decide +kernel
theorem in_M : ∀ w ∈ u_ws "UpcastStreamsModel" F_M 29, w ∈ usW := by
  intro w hw
  have e : u_ws "UpcastStreamsModel" F_M 29 = [Cond.laysFinal "UpcastStreamsModel" "UpcastStreamsModel" "period" "I", Cond.lays "UpcastStreamsModel" "UpcastStreamsModel" "code" "I", Cond.lays "UpcastStreamsModel" "UpcastStreamsModel" "total" "I", Cond.laysFinal "UpcastStreamsModel" "UpcastStreamsModel" "streams" "[I", Cond.laysFinal "UpcastStreamsModel" "UpcastStreamsModel" "types" "[I", Cond.laysFinal "UpcastStreamsModel" "UpcastStreamsModel" "forms" "[I", Cond.laysFinal "UpcastStreamsModel" "UpcastStreamsModel" "as" "[I", Cond.laysFinal "UpcastStreamsModel" "UpcastStreamsModel" "bs" "[I", Cond.lays "UpcastStreamsModel" "UpcastStreamsModel" "staged" "I", Cond.laysFinal "UpcastStreamsModel" "UpcastStreamsModel" "kinds" "[I", Cond.laysFinal "UpcastStreamsModel" "UpcastStreamsModel" "ks" "[I", Cond.laysFinal "UpcastStreamsModel" "UpcastStreamsModel" "snapshots" "[I", Cond.lays "UpcastStreamsModel" "UpcastStreamsModel" "came" "I", Cond.laysFinal "UpcastStreamsModel" "UpcastStreamsModel" "cameType" "[I", Cond.laysFinal "UpcastStreamsModel" "UpcastStreamsModel" "cameA" "[I", Cond.laysFinal "UpcastStreamsModel" "UpcastStreamsModel" "cameB" "[I", Cond.lays "UpcastStreamsModel" "UpcastStreamsModel" "open" "I", Cond.laysFinal "UpcastStreamsModel" "UpcastStreamsModel" "openType" "[I", Cond.laysFinal "UpcastStreamsModel" "UpcastStreamsModel" "openForm" "[I", Cond.laysFinal "UpcastStreamsModel" "UpcastStreamsModel" "openA" "[I", Cond.laysFinal "UpcastStreamsModel" "UpcastStreamsModel" "openB" "[I", Cond.laysFinal "UpcastStreamsModel" "UpcastStreamsModel" "state" "[J", Cond.laysFinal "UpcastStreamsModel" "UpcastStreamsModel" "loaded" "[J", Cond.laysFinal "UpcastStreamsModel" "UpcastStreamsModel" "cursors" "[I", Cond.laysFinal "UpcastStreamsModel" "UpcastStreamsModel" "marks" "[I", Cond.laysFinal "UpcastStreamsModel" "UpcastStreamsModel" "streamSets" "[I", Cond.laysFinal "UpcastStreamsModel" "UpcastStreamsModel" "typeSets" "[I", Cond.lays "UpcastStreamsModel" "UpcastStreamsModel" "held" "I", Cond.laysFinal "UpcastStreamsModel" "UpcastStreamsModel" "hand" "[I"] := by rfl
  rw [e] at hw
  simp only [List.mem_cons, List.not_mem_nil, or_false] at hw
  rcases hw with rfl | rfl | rfl | rfl | rfl | rfl | rfl | rfl | rfl | rfl | rfl | rfl | rfl | rfl | rfl | rfl | rfl | rfl | rfl | rfl | rfl | rfl | rfl | rfl | rfl | rfl | rfl | rfl | rfl
  · exact us_m3 160 rfl (by decide)
  · exact us_m3 162 rfl (by decide)
  · exact us_m3 164 rfl (by decide)
  · exact us_m3 166 rfl (by decide)
  · exact us_m3 168 rfl (by decide)
  · exact us_m3 170 rfl (by decide)
  · exact us_m3 172 rfl (by decide)
  · exact us_m3 174 rfl (by decide)
  · exact us_m3 176 rfl (by decide)
  · exact us_m3 178 rfl (by decide)
  · exact us_m3 180 rfl (by decide)
  · exact us_m3 182 rfl (by decide)
  · exact us_m3 184 rfl (by decide)
  · exact us_m3 186 rfl (by decide)
  · exact us_m3 188 rfl (by decide)
  · exact us_m3 190 rfl (by decide)
  · exact us_m3 192 rfl (by decide)
  · exact us_m3 194 rfl (by decide)
  · exact us_m3 196 rfl (by decide)
  · exact us_m3 198 rfl (by decide)
  · exact us_m3 200 rfl (by decide)
  · exact us_m3 202 rfl (by decide)
  · exact us_m3 204 rfl (by decide)
  · exact us_m3 206 rfl (by decide)
  · exact us_m3 208 rfl (by decide)
  · exact us_m3 210 rfl (by decide)
  · exact us_m3 212 rfl (by decide)
  · exact us_m3 214 rfl (by decide)
  · exact us_m3 216 rfl (by decide)
abbrev vwCl : List vw_C := [("UpcastStreams$Row", F_Row, 5), ("UpcastStreams$State", F_State, 8), ("UpcastStreams$Reader", F_Reader, 4), ("UpcastStreams$Log", F_Log, 4), ("UpcastStreams$Hand", F_Hand, 3), ("UpcastStreams$Rules", F_Rules, 4), ("UpcastStreams$Shelf", F_Shelf, 4), ("UpcastStreams", F_X, 9), ("UpcastStreamsModel", F_M, 29)]
abbrev us_ty (cI cL cS cR : ClassId) : List (ClassId × FieldType) := [(cI, .int), (cL, .long), (cS, .object "UpcastStreams$Shelf"), (cR, .object "UpcastStreams$Reader")]
abbrev b_Hand_init : ByteArray := prog_2_method_1_code
abbrev y_Hand_init : MethodName := ⟨"UpcastStreams$Hand", "<init>", "()V"⟩
abbrev w_Hand_init : List Cond := Cond.code y_Hand_init b_Hand_init 1 none :: usW
theorem k_Hand_init : Cond.code y_Hand_init b_Hand_init 1 none ∈ usW := us_m1 199 rfl (by decide)
theorem h_Hand_init : y_Hand_init.cls = "UpcastStreams$Hand" ∧ y_Hand_init.cls ≠ "java/lang/invoke/MethodHandle" ∧ y_Hand_init.cls ≠ "java/lang/invoke/VarHandle" ∧ (parseMethodDescriptor y_Hand_init.desc).map (fun d => d.parameters.length) = some 0 := by decide +kernel
abbrev b_Hand_partOf : ByteArray := prog_2_method_3_code
abbrev y_Hand_partOf : MethodName := ⟨"UpcastStreams$Hand", "partOf", "(II)I"⟩
abbrev w_Hand_partOf : List Cond := Cond.code y_Hand_partOf b_Hand_partOf 3 (some .int) :: usW
theorem k_Hand_partOf : Cond.code y_Hand_partOf b_Hand_partOf 3 (some .int) ∈ usW := us_m3 120 rfl (by decide)
theorem h_Hand_partOf : y_Hand_partOf.cls = "UpcastStreams$Hand" ∧ y_Hand_partOf.cls ≠ "java/lang/invoke/MethodHandle" ∧ y_Hand_partOf.cls ≠ "java/lang/invoke/VarHandle" ∧ (parseMethodDescriptor y_Hand_partOf.desc).map (fun d => d.parameters.length) = some 2 := by decide +kernel
abbrev b_Hand_take : ByteArray := prog_2_method_2_code
abbrev y_Hand_take : MethodName := ⟨"UpcastStreams$Hand", "take", "(IILUpcastStreams$Row;I)V"⟩
abbrev w_Hand_take : List Cond := Cond.code y_Hand_take b_Hand_take 6 none :: usW
theorem k_Hand_take : Cond.code y_Hand_take b_Hand_take 6 none ∈ usW := us_m3 97 rfl (by decide)
theorem h_Hand_take : y_Hand_take.cls = "UpcastStreams$Hand" ∧ y_Hand_take.cls ≠ "java/lang/invoke/MethodHandle" ∧ y_Hand_take.cls ≠ "java/lang/invoke/VarHandle" ∧ (parseMethodDescriptor y_Hand_take.desc).map (fun d => d.parameters.length) = some 4 := by decide +kernel
abbrev b_L_cell : ByteArray := method_2_code
abbrev y_L_cell : MethodName := ⟨"UpcastStreamsLaw", "cell", "([II)I"⟩
abbrev w_L_cell : List Cond := Cond.code y_L_cell b_L_cell 2 (some .int) :: usW
theorem k_L_cell : Cond.code y_L_cell b_L_cell 2 (some .int) ∈ usW := us_m2 60 rfl (by decide)
theorem h_L_cell : y_L_cell.cls = "UpcastStreamsLaw" ∧ y_L_cell.cls ≠ "java/lang/invoke/MethodHandle" ∧ y_L_cell.cls ≠ "java/lang/invoke/VarHandle" ∧ (parseMethodDescriptor y_L_cell.desc).map (fun d => d.parameters.length) = some 2 := by decide +kernel
abbrev b_L_comes : ByteArray := method_6_code
abbrev y_L_comes : MethodName := ⟨"UpcastStreamsLaw", "comes", "(LUpcastStreams;I[J)I"⟩
abbrev w_L_comes : List Cond := Cond.codeWith y_L_comes b_L_comes 4 (some .int) [(0, 9, 12, 22)] :: usW
theorem k_L_comes : Cond.codeWith y_L_comes b_L_comes 4 (some .int) [(0, 9, 12, 22)] ∈ usW := us_m3 52 rfl (by decide)
theorem h_L_comes : y_L_comes.cls = "UpcastStreamsLaw" ∧ y_L_comes.cls ≠ "java/lang/invoke/MethodHandle" ∧ y_L_comes.cls ≠ "java/lang/invoke/VarHandle" ∧ (parseMethodDescriptor y_L_comes.desc).map (fun d => d.parameters.length) = some 3 := by decide +kernel
abbrev b_L_commit : ByteArray := method_3_code
abbrev y_L_commit : MethodName := ⟨"UpcastStreamsLaw", "commit", "(LUpcastStreams;II[J)I"⟩
abbrev w_L_commit : List Cond := Cond.codeWith y_L_commit b_L_commit 5 (some .int) [(0, 10, 13, 13), (0, 10, 17, 15), (0, 10, 21, 17)] :: usW
theorem k_L_commit : Cond.codeWith y_L_commit b_L_commit 5 (some .int) [(0, 10, 13, 13), (0, 10, 17, 15), (0, 10, 21, 17)] ∈ usW := us_m2 63 rfl (by decide)
theorem h_L_commit : y_L_commit.cls = "UpcastStreamsLaw" ∧ y_L_commit.cls ≠ "java/lang/invoke/MethodHandle" ∧ y_L_commit.cls ≠ "java/lang/invoke/VarHandle" ∧ (parseMethodDescriptor y_L_commit.desc).map (fun d => d.parameters.length) = some 4 := by decide +kernel
abbrev b_L_done : ByteArray := method_10_code
abbrev y_L_done : MethodName := ⟨"UpcastStreamsLaw", "done", "(LUpcastStreams;I[J)I"⟩
abbrev w_L_done : List Cond := Cond.codeWith y_L_done b_L_done 4 (some .int) [(0, 9, 12, 13)] :: usW
theorem k_L_done : Cond.codeWith y_L_done b_L_done 4 (some .int) [(0, 9, 12, 13)] ∈ usW := us_m3 101 rfl (by decide)
theorem h_L_done : y_L_done.cls = "UpcastStreamsLaw" ∧ y_L_done.cls ≠ "java/lang/invoke/MethodHandle" ∧ y_L_done.cls ≠ "java/lang/invoke/VarHandle" ∧ (parseMethodDescriptor y_L_done.desc).map (fun d => d.parameters.length) = some 3 := by decide +kernel
abbrev b_L_follow : ByteArray := method_8_code
abbrev y_L_follow : MethodName := ⟨"UpcastStreamsLaw", "follow", "(LUpcastStreams;IIII)I"⟩
abbrev w_L_follow : List Cond := Cond.codeWith y_L_follow b_L_follow 6 (some .int) [(0, 9, 12, 13)] :: usW
theorem k_L_follow : Cond.codeWith y_L_follow b_L_follow 6 (some .int) [(0, 9, 12, 13)] ∈ usW := us_m3 66 rfl (by decide)
theorem h_L_follow : y_L_follow.cls = "UpcastStreamsLaw" ∧ y_L_follow.cls ≠ "java/lang/invoke/MethodHandle" ∧ y_L_follow.cls ≠ "java/lang/invoke/VarHandle" ∧ (parseMethodDescriptor y_L_follow.desc).map (fun d => d.parameters.length) = some 5 := by decide +kernel
abbrev b_L_hand : ByteArray := method_11_code
abbrev y_L_hand : MethodName := ⟨"UpcastStreamsLaw", "hand", "(LUpcastStreams;II[J)I"⟩
abbrev w_L_hand : List Cond := Cond.codeWith y_L_hand b_L_hand 5 (some .int) [(0, 10, 13, 22)] :: usW
theorem k_L_hand : Cond.codeWith y_L_hand b_L_hand 5 (some .int) [(0, 10, 13, 22)] ∈ usW := us_m3 112 rfl (by decide)
theorem h_L_hand : y_L_hand.cls = "UpcastStreamsLaw" ∧ y_L_hand.cls ≠ "java/lang/invoke/MethodHandle" ∧ y_L_hand.cls ≠ "java/lang/invoke/VarHandle" ∧ (parseMethodDescriptor y_L_hand.desc).map (fun d => d.parameters.length) = some 4 := by decide +kernel
abbrev b_L_learn : ByteArray := method_5_code
abbrev y_L_learn : MethodName := ⟨"UpcastStreamsLaw", "learn", "(LUpcastStreams;IIII)I"⟩
abbrev w_L_learn : List Cond := Cond.codeWith y_L_learn b_L_learn 6 (some .int) [(0, 9, 12, 13)] :: usW
theorem k_L_learn : Cond.codeWith y_L_learn b_L_learn 6 (some .int) [(0, 9, 12, 13)] ∈ usW := us_m3 37 rfl (by decide)
theorem h_L_learn : y_L_learn.cls = "UpcastStreamsLaw" ∧ y_L_learn.cls ≠ "java/lang/invoke/MethodHandle" ∧ y_L_learn.cls ≠ "java/lang/invoke/VarHandle" ∧ (parseMethodDescriptor y_L_learn.desc).map (fun d => d.parameters.length) = some 5 := by decide +kernel
abbrev b_L_load : ByteArray := method_7_code
abbrev y_L_load : MethodName := ⟨"UpcastStreamsLaw", "load", "(LUpcastStreams;II[J)I"⟩
abbrev w_L_load : List Cond := Cond.codeWith y_L_load b_L_load 5 (some .int) [(0, 10, 13, 13)] :: usW
theorem k_L_load : Cond.codeWith y_L_load b_L_load 5 (some .int) [(0, 10, 13, 13)] ∈ usW := us_m3 59 rfl (by decide)
theorem h_L_load : y_L_load.cls = "UpcastStreamsLaw" ∧ y_L_load.cls ≠ "java/lang/invoke/MethodHandle" ∧ y_L_load.cls ≠ "java/lang/invoke/VarHandle" ∧ (parseMethodDescriptor y_L_load.desc).map (fun d => d.parameters.length) = some 4 := by decide +kernel
abbrev b_L_poll : ByteArray := method_9_code
abbrev y_L_poll : MethodName := ⟨"UpcastStreamsLaw", "poll", "(LUpcastStreams;II[J)I"⟩
abbrev w_L_poll : List Cond := Cond.codeWith y_L_poll b_L_poll 5 (some .int) [(0, 10, 13, 13)] :: usW
theorem k_L_poll : Cond.codeWith y_L_poll b_L_poll 5 (some .int) [(0, 10, 13, 13)] ∈ usW := us_m3 77 rfl (by decide)
theorem h_L_poll : y_L_poll.cls = "UpcastStreamsLaw" ∧ y_L_poll.cls ≠ "java/lang/invoke/MethodHandle" ∧ y_L_poll.cls ≠ "java/lang/invoke/VarHandle" ∧ (parseMethodDescriptor y_L_poll.desc).map (fun d => d.parameters.length) = some 4 := by decide +kernel
abbrev b_L_stored : ByteArray := method_4_code
abbrev y_L_stored : MethodName := ⟨"UpcastStreamsLaw", "stored", "(LUpcastStreams;II[J)I"⟩
abbrev w_L_stored : List Cond := Cond.codeWith y_L_stored b_L_stored 5 (some .int) [(0, 10, 13, 22)] :: usW
theorem k_L_stored : Cond.codeWith y_L_stored b_L_stored 5 (some .int) [(0, 10, 13, 22)] ∈ usW := us_m3 6 rfl (by decide)
theorem h_L_stored : y_L_stored.cls = "UpcastStreamsLaw" ∧ y_L_stored.cls ≠ "java/lang/invoke/MethodHandle" ∧ y_L_stored.cls ≠ "java/lang/invoke/VarHandle" ∧ (parseMethodDescriptor y_L_stored.desc).map (fun d => d.parameters.length) = some 4 := by decide +kernel
abbrev b_Log_init : ByteArray := prog_3_method_1_code
abbrev y_Log_init : MethodName := ⟨"UpcastStreams$Log", "<init>", "()V"⟩
abbrev w_Log_init : List Cond := Cond.code y_Log_init b_Log_init 1 none :: usW
theorem k_Log_init : Cond.code y_Log_init b_Log_init 1 none ∈ usW := us_m1 79 rfl (by decide)
theorem h_Log_init : y_Log_init.cls = "UpcastStreams$Log" ∧ y_Log_init.cls ≠ "java/lang/invoke/MethodHandle" ∧ y_Log_init.cls ≠ "java/lang/invoke/VarHandle" ∧ (parseMethodDescriptor y_Log_init.desc).map (fun d => d.parameters.length) = some 0 := by decide +kernel
abbrev b_Log_append : ByteArray := prog_3_method_2_code
abbrev y_Log_append : MethodName := ⟨"UpcastStreams$Log", "append", "(ILUpcastStreams$Row;I)V"⟩
abbrev w_Log_append : List Cond := Cond.code y_Log_append b_Log_append 5 none :: usW
theorem k_Log_append : Cond.code y_Log_append b_Log_append 5 none ∈ usW := us_m2 238 rfl (by decide)
theorem h_Log_append : y_Log_append.cls = "UpcastStreams$Log" ∧ y_Log_append.cls ≠ "java/lang/invoke/MethodHandle" ∧ y_Log_append.cls ≠ "java/lang/invoke/VarHandle" ∧ (parseMethodDescriptor y_Log_append.desc).map (fun d => d.parameters.length) = some 3 := by decide +kernel
abbrev b_Log_partOf : ByteArray := prog_3_method_3_code
abbrev y_Log_partOf : MethodName := ⟨"UpcastStreams$Log", "partOf", "(II)I"⟩
abbrev w_Log_partOf : List Cond := Cond.code y_Log_partOf b_Log_partOf 3 (some .int) :: usW
theorem k_Log_partOf : Cond.code y_Log_partOf b_Log_partOf 3 (some .int) ∈ usW := us_m3 34 rfl (by decide)
theorem h_Log_partOf : y_Log_partOf.cls = "UpcastStreams$Log" ∧ y_Log_partOf.cls ≠ "java/lang/invoke/MethodHandle" ∧ y_Log_partOf.cls ≠ "java/lang/invoke/VarHandle" ∧ (parseMethodDescriptor y_Log_partOf.desc).map (fun d => d.parameters.length) = some 2 := by decide +kernel
abbrev b_M_init : ByteArray := prog_10_method_1_code
abbrev y_M_init : MethodName := ⟨"UpcastStreamsModel", "<init>", "(I)V"⟩
abbrev w_M_init : List Cond := Cond.code y_M_init b_M_init 2 none :: usW
theorem k_M_init : Cond.code y_M_init b_M_init 2 none ∈ usW := us_m3 125 rfl (by decide)
theorem h_M_init : y_M_init.cls = "UpcastStreamsModel" ∧ y_M_init.cls ≠ "java/lang/invoke/MethodHandle" ∧ y_M_init.cls ≠ "java/lang/invoke/VarHandle" ∧ (parseMethodDescriptor y_M_init.desc).map (fun d => d.parameters.length) = some 1 := by decide +kernel
abbrev b_M_bringUp : ByteArray := prog_10_method_9_code
abbrev y_M_bringUp : MethodName := ⟨"UpcastStreamsModel", "bringUp", "(I)V"⟩
abbrev w_M_bringUp : List Cond := Cond.code y_M_bringUp b_M_bringUp 2 none :: usW
theorem k_M_bringUp : Cond.code y_M_bringUp b_M_bringUp 2 none ∈ usW := us_m4 17 rfl (by decide)
theorem h_M_bringUp : y_M_bringUp.cls = "UpcastStreamsModel" ∧ y_M_bringUp.cls ≠ "java/lang/invoke/MethodHandle" ∧ y_M_bringUp.cls ≠ "java/lang/invoke/VarHandle" ∧ (parseMethodDescriptor y_M_bringUp.desc).map (fun d => d.parameters.length) = some 1 := by decide +kernel
abbrev b_M_change : ByteArray := prog_10_method_11_code
abbrev y_M_change : MethodName := ⟨"UpcastStreamsModel", "change", "(III)V"⟩
abbrev w_M_change : List Cond := Cond.code y_M_change b_M_change 6 none :: usW
theorem k_M_change : Cond.code y_M_change b_M_change 6 none ∈ usW := us_m4 37 rfl (by decide)
theorem h_M_change : y_M_change.cls = "UpcastStreamsModel" ∧ y_M_change.cls ≠ "java/lang/invoke/MethodHandle" ∧ y_M_change.cls ≠ "java/lang/invoke/VarHandle" ∧ (parseMethodDescriptor y_M_change.desc).map (fun d => d.parameters.length) = some 3 := by decide +kernel
abbrev b_M_comes : ByteArray := prog_10_method_24_code
abbrev y_M_comes : MethodName := ⟨"UpcastStreamsModel", "comes", "(I)I"⟩
abbrev w_M_comes : List Cond := Cond.code y_M_comes b_M_comes 2 (some .int) :: usW
theorem k_M_comes : Cond.code y_M_comes b_M_comes 2 (some .int) ∈ usW := us_m4 67 rfl (by decide)
theorem h_M_comes : y_M_comes.cls = "UpcastStreamsModel" ∧ y_M_comes.cls ≠ "java/lang/invoke/MethodHandle" ∧ y_M_comes.cls ≠ "java/lang/invoke/VarHandle" ∧ (parseMethodDescriptor y_M_comes.desc).map (fun d => d.parameters.length) = some 1 := by decide +kernel
abbrev b_M_commit : ByteArray := prog_10_method_18_code
abbrev y_M_commit : MethodName := ⟨"UpcastStreamsModel", "commit", "(II)I"⟩
abbrev w_M_commit : List Cond := Cond.code y_M_commit b_M_commit 6 (some .int) :: usW
theorem k_M_commit : Cond.code y_M_commit b_M_commit 6 (some .int) ∈ usW := us_m3 238 rfl (by decide)
theorem h_M_commit : y_M_commit.cls = "UpcastStreamsModel" ∧ y_M_commit.cls ≠ "java/lang/invoke/MethodHandle" ∧ y_M_commit.cls ≠ "java/lang/invoke/VarHandle" ∧ (parseMethodDescriptor y_M_commit.desc).map (fun d => d.parameters.length) = some 2 := by decide +kernel
abbrev b_M_cursor : ByteArray := prog_10_method_33_code
abbrev y_M_cursor : MethodName := ⟨"UpcastStreamsModel", "cursor", "(I)I"⟩
abbrev w_M_cursor : List Cond := Cond.code y_M_cursor b_M_cursor 2 (some .int) :: usW
theorem k_M_cursor : Cond.code y_M_cursor b_M_cursor 2 (some .int) ∈ usW := us_m4 103 rfl (by decide)
theorem h_M_cursor : y_M_cursor.cls = "UpcastStreamsModel" ∧ y_M_cursor.cls ≠ "java/lang/invoke/MethodHandle" ∧ y_M_cursor.cls ≠ "java/lang/invoke/VarHandle" ∧ (parseMethodDescriptor y_M_cursor.desc).map (fun d => d.parameters.length) = some 1 := by decide +kernel
abbrev b_M_done : ByteArray := prog_10_method_32_code
abbrev y_M_done : MethodName := ⟨"UpcastStreamsModel", "done", "(I)I"⟩
abbrev w_M_done : List Cond := Cond.code y_M_done b_M_done 3 (some .int) :: usW
theorem k_M_done : Cond.code y_M_done b_M_done 3 (some .int) ∈ usW := us_m4 99 rfl (by decide)
theorem h_M_done : y_M_done.cls = "UpcastStreamsModel" ∧ y_M_done.cls ≠ "java/lang/invoke/MethodHandle" ∧ y_M_done.cls ≠ "java/lang/invoke/VarHandle" ∧ (parseMethodDescriptor y_M_done.desc).map (fun d => d.parameters.length) = some 1 := by decide +kernel
abbrev b_M_field : ByteArray := prog_10_method_26_code
abbrev y_M_field : MethodName := ⟨"UpcastStreamsModel", "field", "(I)J"⟩
abbrev w_M_field : List Cond := Cond.code y_M_field b_M_field 2 (some .long) :: usW
theorem k_M_field : Cond.code y_M_field b_M_field 2 (some .long) ∈ usW := us_m4 75 rfl (by decide)
theorem h_M_field : y_M_field.cls = "UpcastStreamsModel" ∧ y_M_field.cls ≠ "java/lang/invoke/MethodHandle" ∧ y_M_field.cls ≠ "java/lang/invoke/VarHandle" ∧ (parseMethodDescriptor y_M_field.desc).map (fun d => d.parameters.length) = some 1 := by decide +kernel
abbrev b_M_fits : ByteArray := prog_10_method_10_code
abbrev y_M_fits : MethodName := ⟨"UpcastStreamsModel", "fits", "(II)Z"⟩
abbrev w_M_fits : List Cond := Cond.code y_M_fits b_M_fits 4 (some .boolean) :: usW
theorem k_M_fits : Cond.code y_M_fits b_M_fits 4 (some .boolean) ∈ usW := us_m4 33 rfl (by decide)
theorem h_M_fits : y_M_fits.cls = "UpcastStreamsModel" ∧ y_M_fits.cls ≠ "java/lang/invoke/MethodHandle" ∧ y_M_fits.cls ≠ "java/lang/invoke/VarHandle" ∧ (parseMethodDescriptor y_M_fits.desc).map (fun d => d.parameters.length) = some 2 := by decide +kernel
abbrev b_M_fold : ByteArray := prog_10_method_12_code
abbrev y_M_fold : MethodName := ⟨"UpcastStreamsModel", "fold", "(I)Z"⟩
abbrev w_M_fold : List Cond := Cond.code y_M_fold b_M_fold 4 (some .boolean) :: usW
theorem k_M_fold : Cond.code y_M_fold b_M_fold 4 (some .boolean) ∈ usW := us_m4 13 rfl (by decide)
theorem h_M_fold : y_M_fold.cls = "UpcastStreamsModel" ∧ y_M_fold.cls ≠ "java/lang/invoke/MethodHandle" ∧ y_M_fold.cls ≠ "java/lang/invoke/VarHandle" ∧ (parseMethodDescriptor y_M_fold.desc).map (fun d => d.parameters.length) = some 1 := by decide +kernel
abbrev b_M_foldStream : ByteArray := prog_10_method_13_code
abbrev y_M_foldStream : MethodName := ⟨"UpcastStreamsModel", "foldStream", "(II)V"⟩
abbrev w_M_foldStream : List Cond := Cond.code y_M_foldStream b_M_foldStream 5 none :: usW
theorem k_M_foldStream : Cond.code y_M_foldStream b_M_foldStream 5 none ∈ usW := us_m4 9 rfl (by decide)
theorem h_M_foldStream : y_M_foldStream.cls = "UpcastStreamsModel" ∧ y_M_foldStream.cls ≠ "java/lang/invoke/MethodHandle" ∧ y_M_foldStream.cls ≠ "java/lang/invoke/VarHandle" ∧ (parseMethodDescriptor y_M_foldStream.desc).map (fun d => d.parameters.length) = some 2 := by decide +kernel
abbrev b_M_follow : ByteArray := prog_10_method_29_code
abbrev y_M_follow : MethodName := ⟨"UpcastStreamsModel", "follow", "(IIII)V"⟩
abbrev w_M_follow : List Cond := Cond.code y_M_follow b_M_follow 5 none :: usW
theorem k_M_follow : Cond.code y_M_follow b_M_follow 5 none ∈ usW := us_m4 84 rfl (by decide)
theorem h_M_follow : y_M_follow.cls = "UpcastStreamsModel" ∧ y_M_follow.cls ≠ "java/lang/invoke/MethodHandle" ∧ y_M_follow.cls ≠ "java/lang/invoke/VarHandle" ∧ (parseMethodDescriptor y_M_follow.desc).map (fun d => d.parameters.length) = some 4 := by decide +kernel
abbrev b_M_forgetSnapshots : ByteArray := prog_10_method_3_code
abbrev y_M_forgetSnapshots : MethodName := ⟨"UpcastStreamsModel", "forgetSnapshots", "()V"⟩
abbrev w_M_forgetSnapshots : List Cond := Cond.code y_M_forgetSnapshots b_M_forgetSnapshots 2 none :: usW
theorem k_M_forgetSnapshots : Cond.code y_M_forgetSnapshots b_M_forgetSnapshots 2 none ∈ usW := us_m3 130 rfl (by decide)
theorem h_M_forgetSnapshots : y_M_forgetSnapshots.cls = "UpcastStreamsModel" ∧ y_M_forgetSnapshots.cls ≠ "java/lang/invoke/MethodHandle" ∧ y_M_forgetSnapshots.cls ≠ "java/lang/invoke/VarHandle" ∧ (parseMethodDescriptor y_M_forgetSnapshots.desc).map (fun d => d.parameters.length) = some 0 := by decide +kernel
abbrev b_M_hand : ByteArray := prog_10_method_34_code
abbrev y_M_hand : MethodName := ⟨"UpcastStreamsModel", "hand", "(II)I"⟩
abbrev w_M_hand : List Cond := Cond.code y_M_hand b_M_hand 3 (some .int) :: usW
theorem k_M_hand : Cond.code y_M_hand b_M_hand 3 (some .int) ∈ usW := us_m4 107 rfl (by decide)
theorem h_M_hand : y_M_hand.cls = "UpcastStreamsModel" ∧ y_M_hand.cls ≠ "java/lang/invoke/MethodHandle" ∧ y_M_hand.cls ≠ "java/lang/invoke/VarHandle" ∧ (parseMethodDescriptor y_M_hand.desc).map (fun d => d.parameters.length) = some 2 := by decide +kernel
abbrev b_M_isReader : ByteArray := prog_10_method_28_code
abbrev y_M_isReader : MethodName := ⟨"UpcastStreamsModel", "isReader", "(I)Z"⟩
abbrev w_M_isReader : List Cond := Cond.code y_M_isReader b_M_isReader 1 (some .boolean) :: usW
theorem k_M_isReader : Cond.code y_M_isReader b_M_isReader 1 (some .boolean) ∈ usW := us_m4 87 rfl (by decide)
theorem h_M_isReader : y_M_isReader.cls = "UpcastStreamsModel" ∧ y_M_isReader.cls ≠ "java/lang/invoke/MethodHandle" ∧ y_M_isReader.cls ≠ "java/lang/invoke/VarHandle" ∧ (parseMethodDescriptor y_M_isReader.desc).map (fun d => d.parameters.length) = some 1 := by decide +kernel
abbrev b_M_isStream : ByteArray := prog_10_method_4_code
abbrev y_M_isStream : MethodName := ⟨"UpcastStreamsModel", "isStream", "(I)Z"⟩
abbrev w_M_isStream : List Cond := Cond.code y_M_isStream b_M_isStream 1 (some .boolean) :: usW
theorem k_M_isStream : Cond.code y_M_isStream b_M_isStream 1 (some .boolean) ∈ usW := us_m4 1 rfl (by decide)
theorem h_M_isStream : y_M_isStream.cls = "UpcastStreamsModel" ∧ y_M_isStream.cls ≠ "java/lang/invoke/MethodHandle" ∧ y_M_isStream.cls ≠ "java/lang/invoke/VarHandle" ∧ (parseMethodDescriptor y_M_isStream.desc).map (fun d => d.parameters.length) = some 1 := by decide +kernel
abbrev b_M_isType : ByteArray := prog_10_method_5_code
abbrev y_M_isType : MethodName := ⟨"UpcastStreamsModel", "isType", "(I)Z"⟩
abbrev w_M_isType : List Cond := Cond.code y_M_isType b_M_isType 1 (some .boolean) :: usW
theorem k_M_isType : Cond.code y_M_isType b_M_isType 1 (some .boolean) ∈ usW := us_m3 230 rfl (by decide)
theorem h_M_isType : y_M_isType.cls = "UpcastStreamsModel" ∧ y_M_isType.cls ≠ "java/lang/invoke/MethodHandle" ∧ y_M_isType.cls ≠ "java/lang/invoke/VarHandle" ∧ (parseMethodDescriptor y_M_isType.desc).map (fun d => d.parameters.length) = some 1 := by decide +kernel
abbrev b_M_learn : ByteArray := prog_10_method_23_code
abbrev y_M_learn : MethodName := ⟨"UpcastStreamsModel", "learn", "(IIII)V"⟩
abbrev w_M_learn : List Cond := Cond.code y_M_learn b_M_learn 5 none :: usW
theorem k_M_learn : Cond.code y_M_learn b_M_learn 5 none ∈ usW := us_m4 63 rfl (by decide)
theorem h_M_learn : y_M_learn.cls = "UpcastStreamsModel" ∧ y_M_learn.cls ≠ "java/lang/invoke/MethodHandle" ∧ y_M_learn.cls ≠ "java/lang/invoke/VarHandle" ∧ (parseMethodDescriptor y_M_learn.desc).map (fun d => d.parameters.length) = some 4 := by decide +kernel
abbrev b_M_load : ByteArray := prog_10_method_25_code
abbrev y_M_load : MethodName := ⟨"UpcastStreamsModel", "load", "(II)I"⟩
abbrev w_M_load : List Cond := Cond.code y_M_load b_M_load 6 (some .int) :: usW
theorem k_M_load : Cond.code y_M_load b_M_load 6 (some .int) ∈ usW := us_m4 71 rfl (by decide)
theorem h_M_load : y_M_load.cls = "UpcastStreamsModel" ∧ y_M_load.cls ≠ "java/lang/invoke/MethodHandle" ∧ y_M_load.cls ≠ "java/lang/invoke/VarHandle" ∧ (parseMethodDescriptor y_M_load.desc).map (fun d => d.parameters.length) = some 2 := by decide +kernel
abbrev b_M_numberOf : ByteArray := prog_10_method_21_code
abbrev y_M_numberOf : MethodName := ⟨"UpcastStreamsModel", "numberOf", "(I)I"⟩
abbrev w_M_numberOf : List Cond := Cond.code y_M_numberOf b_M_numberOf 4 (some .int) :: usW
theorem k_M_numberOf : Cond.code y_M_numberOf b_M_numberOf 4 (some .int) ∈ usW := us_m4 59 rfl (by decide)
theorem h_M_numberOf : y_M_numberOf.cls = "UpcastStreamsModel" ∧ y_M_numberOf.cls ≠ "java/lang/invoke/MethodHandle" ∧ y_M_numberOf.cls ≠ "java/lang/invoke/VarHandle" ∧ (parseMethodDescriptor y_M_numberOf.desc).map (fun d => d.parameters.length) = some 1 := by decide +kernel
abbrev b_M_oneUp : ByteArray := prog_10_method_8_code
abbrev y_M_oneUp : MethodName := ⟨"UpcastStreamsModel", "oneUp", "(IIII)V"⟩
abbrev w_M_oneUp : List Cond := Cond.code y_M_oneUp b_M_oneUp 7 none :: usW
theorem k_M_oneUp : Cond.code y_M_oneUp b_M_oneUp 7 none ∈ usW := us_m4 25 rfl (by decide)
theorem h_M_oneUp : y_M_oneUp.cls = "UpcastStreamsModel" ∧ y_M_oneUp.cls ≠ "java/lang/invoke/MethodHandle" ∧ y_M_oneUp.cls ≠ "java/lang/invoke/VarHandle" ∧ (parseMethodDescriptor y_M_oneUp.desc).map (fun d => d.parameters.length) = some 4 := by decide +kernel
abbrev b_M_poll : ByteArray := prog_10_method_31_code
abbrev y_M_poll : MethodName := ⟨"UpcastStreamsModel", "poll", "(II)I"⟩
abbrev w_M_poll : List Cond := Cond.code y_M_poll b_M_poll 6 (some .int) :: usW
theorem k_M_poll : Cond.code y_M_poll b_M_poll 6 (some .int) ∈ usW := us_m4 91 rfl (by decide)
theorem h_M_poll : y_M_poll.cls = "UpcastStreamsModel" ∧ y_M_poll.cls ≠ "java/lang/invoke/MethodHandle" ∧ y_M_poll.cls ≠ "java/lang/invoke/VarHandle" ∧ (parseMethodDescriptor y_M_poll.desc).map (fun d => d.parameters.length) = some 2 := by decide +kernel
abbrev b_M_push : ByteArray := prog_10_method_6_code
abbrev y_M_push : MethodName := ⟨"UpcastStreamsModel", "push", "(IIII)V"⟩
abbrev w_M_push : List Cond := Cond.code y_M_push b_M_push 5 none :: usW
theorem k_M_push : Cond.code y_M_push b_M_push 5 none ∈ usW := us_m4 21 rfl (by decide)
theorem h_M_push : y_M_push.cls = "UpcastStreamsModel" ∧ y_M_push.cls ≠ "java/lang/invoke/MethodHandle" ∧ y_M_push.cls ≠ "java/lang/invoke/VarHandle" ∧ (parseMethodDescriptor y_M_push.desc).map (fun d => d.parameters.length) = some 4 := by decide +kernel
abbrev b_M_snapshot : ByteArray := prog_10_method_27_code
abbrev y_M_snapshot : MethodName := ⟨"UpcastStreamsModel", "snapshot", "(II)I"⟩
abbrev w_M_snapshot : List Cond := Cond.code y_M_snapshot b_M_snapshot 3 (some .int) :: usW
theorem k_M_snapshot : Cond.code y_M_snapshot b_M_snapshot 3 (some .int) ∈ usW := us_m4 80 rfl (by decide)
theorem h_M_snapshot : y_M_snapshot.cls = "UpcastStreamsModel" ∧ y_M_snapshot.cls ≠ "java/lang/invoke/MethodHandle" ∧ y_M_snapshot.cls ≠ "java/lang/invoke/VarHandle" ∧ (parseMethodDescriptor y_M_snapshot.desc).map (fun d => d.parameters.length) = some 2 := by decide +kernel
abbrev b_M_split : ByteArray := prog_10_method_7_code
abbrev y_M_split : MethodName := ⟨"UpcastStreamsModel", "split", "(IIII)V"⟩
abbrev w_M_split : List Cond := Cond.code y_M_split b_M_split 6 none :: usW
theorem k_M_split : Cond.code y_M_split b_M_split 6 none ∈ usW := us_m4 29 rfl (by decide)
theorem h_M_split : y_M_split.cls = "UpcastStreamsModel" ∧ y_M_split.cls ≠ "java/lang/invoke/MethodHandle" ∧ y_M_split.cls ≠ "java/lang/invoke/VarHandle" ∧ (parseMethodDescriptor y_M_split.desc).map (fun d => d.parameters.length) = some 4 := by decide +kernel
abbrev b_M_stage : ByteArray := prog_10_method_15_code
abbrev y_M_stage : MethodName := ⟨"UpcastStreamsModel", "stage", "(IIII)Z"⟩
abbrev w_M_stage : List Cond := Cond.code y_M_stage b_M_stage 5 (some .boolean) :: usW
theorem k_M_stage : Cond.code y_M_stage b_M_stage 5 (some .boolean) ∈ usW := us_m3 227 rfl (by decide)
theorem h_M_stage : y_M_stage.cls = "UpcastStreamsModel" ∧ y_M_stage.cls ≠ "java/lang/invoke/MethodHandle" ∧ y_M_stage.cls ≠ "java/lang/invoke/VarHandle" ∧ (parseMethodDescriptor y_M_stage.desc).map (fun d => d.parameters.length) = some 4 := by decide +kernel
abbrev b_M_storeBatch : ByteArray := prog_10_method_17_code
abbrev y_M_storeBatch : MethodName := ⟨"UpcastStreamsModel", "storeBatch", "(I)V"⟩
abbrev w_M_storeBatch : List Cond := Cond.code y_M_storeBatch b_M_storeBatch 3 none :: usW
theorem k_M_storeBatch : Cond.code y_M_storeBatch b_M_storeBatch 3 none ∈ usW := us_m4 43 rfl (by decide)
theorem h_M_storeBatch : y_M_storeBatch.cls = "UpcastStreamsModel" ∧ y_M_storeBatch.cls ≠ "java/lang/invoke/MethodHandle" ∧ y_M_storeBatch.cls ≠ "java/lang/invoke/VarHandle" ∧ (parseMethodDescriptor y_M_storeBatch.desc).map (fun d => d.parameters.length) = some 1 := by decide +kernel
abbrev b_M_stored : ByteArray := prog_10_method_22_code
abbrev y_M_stored : MethodName := ⟨"UpcastStreamsModel", "stored", "(II)I"⟩
abbrev w_M_stored : List Cond := Cond.code y_M_stored b_M_stored 3 (some .int) :: usW
theorem k_M_stored : Cond.code y_M_stored b_M_stored 3 (some .int) ∈ usW := us_m4 55 rfl (by decide)
theorem h_M_stored : y_M_stored.cls = "UpcastStreamsModel" ∧ y_M_stored.cls ≠ "java/lang/invoke/MethodHandle" ∧ y_M_stored.cls ≠ "java/lang/invoke/VarHandle" ∧ (parseMethodDescriptor y_M_stored.desc).map (fun d => d.parameters.length) = some 2 := by decide +kernel
abbrev b_M_take : ByteArray := prog_10_method_30_code
abbrev y_M_take : MethodName := ⟨"UpcastStreamsModel", "take", "(II)Z"⟩
abbrev w_M_take : List Cond := Cond.code y_M_take b_M_take 5 (some .boolean) :: usW
theorem k_M_take : Cond.code y_M_take b_M_take 5 (some .boolean) ∈ usW := us_m4 95 rfl (by decide)
theorem h_M_take : y_M_take.cls = "UpcastStreamsModel" ∧ y_M_take.cls ≠ "java/lang/invoke/MethodHandle" ∧ y_M_take.cls ≠ "java/lang/invoke/VarHandle" ∧ (parseMethodDescriptor y_M_take.desc).map (fun d => d.parameters.length) = some 2 := by decide +kernel
abbrev b_M_thrown : ByteArray := prog_10_method_2_code
abbrev y_M_thrown : MethodName := ⟨"UpcastStreamsModel", "thrown", "()I"⟩
abbrev w_M_thrown : List Cond := Cond.code y_M_thrown b_M_thrown 1 (some .int) :: usW
theorem k_M_thrown : Cond.code y_M_thrown b_M_thrown 1 (some .int) ∈ usW := us_m3 223 rfl (by decide)
theorem h_M_thrown : y_M_thrown.cls = "UpcastStreamsModel" ∧ y_M_thrown.cls ≠ "java/lang/invoke/MethodHandle" ∧ y_M_thrown.cls ≠ "java/lang/invoke/VarHandle" ∧ (parseMethodDescriptor y_M_thrown.desc).map (fun d => d.parameters.length) = some 0 := by decide +kernel
abbrev b_M_total : ByteArray := prog_10_method_20_code
abbrev y_M_total : MethodName := ⟨"UpcastStreamsModel", "total", "()I"⟩
abbrev w_M_total : List Cond := Cond.code y_M_total b_M_total 1 (some .int) :: usW
theorem k_M_total : Cond.code y_M_total b_M_total 1 (some .int) ∈ usW := us_m4 51 rfl (by decide)
theorem h_M_total : y_M_total.cls = "UpcastStreamsModel" ∧ y_M_total.cls ≠ "java/lang/invoke/MethodHandle" ∧ y_M_total.cls ≠ "java/lang/invoke/VarHandle" ∧ (parseMethodDescriptor y_M_total.desc).map (fun d => d.parameters.length) = some 0 := by decide +kernel
abbrev b_M_unstage : ByteArray := prog_10_method_16_code
abbrev y_M_unstage : MethodName := ⟨"UpcastStreamsModel", "unstage", "()I"⟩
abbrev w_M_unstage : List Cond := Cond.code y_M_unstage b_M_unstage 2 (some .int) :: usW
theorem k_M_unstage : Cond.code y_M_unstage b_M_unstage 2 (some .int) ∈ usW := us_m3 234 rfl (by decide)
theorem h_M_unstage : y_M_unstage.cls = "UpcastStreamsModel" ∧ y_M_unstage.cls ≠ "java/lang/invoke/MethodHandle" ∧ y_M_unstage.cls ≠ "java/lang/invoke/VarHandle" ∧ (parseMethodDescriptor y_M_unstage.desc).map (fun d => d.parameters.length) = some 0 := by decide +kernel
abbrev b_M_version : ByteArray := prog_10_method_19_code
abbrev y_M_version : MethodName := ⟨"UpcastStreamsModel", "version", "(I)I"⟩
abbrev w_M_version : List Cond := Cond.code y_M_version b_M_version 2 (some .int) :: usW
theorem k_M_version : Cond.code y_M_version b_M_version 2 (some .int) ∈ usW := us_m4 47 rfl (by decide)
theorem h_M_version : y_M_version.cls = "UpcastStreamsModel" ∧ y_M_version.cls ≠ "java/lang/invoke/MethodHandle" ∧ y_M_version.cls ≠ "java/lang/invoke/VarHandle" ∧ (parseMethodDescriptor y_M_version.desc).map (fun d => d.parameters.length) = some 1 := by decide +kernel
abbrev b_M_versionOf : ByteArray := prog_10_method_14_code
abbrev y_M_versionOf : MethodName := ⟨"UpcastStreamsModel", "versionOf", "(I)I"⟩
abbrev w_M_versionOf : List Cond := Cond.code y_M_versionOf b_M_versionOf 4 (some .int) :: usW
theorem k_M_versionOf : Cond.code y_M_versionOf b_M_versionOf 4 (some .int) ∈ usW := us_m4 5 rfl (by decide)
theorem h_M_versionOf : y_M_versionOf.cls = "UpcastStreamsModel" ∧ y_M_versionOf.cls ≠ "java/lang/invoke/MethodHandle" ∧ y_M_versionOf.cls ≠ "java/lang/invoke/VarHandle" ∧ (parseMethodDescriptor y_M_versionOf.desc).map (fun d => d.parameters.length) = some 1 := by decide +kernel
abbrev b_Math_floorDiv : ByteArray := prog_14_method_47_code
abbrev y_Math_floorDiv : MethodName := ⟨"java/lang/Math", "floorDiv", "(II)I"⟩
abbrev w_Math_floorDiv : List Cond := Cond.code y_Math_floorDiv b_Math_floorDiv 3 (some .int) :: usW
theorem k_Math_floorDiv : Cond.code y_Math_floorDiv b_Math_floorDiv 3 (some .int) ∈ usW := us_m2 209 rfl (by decide)
theorem h_Math_floorDiv : y_Math_floorDiv.cls = "java/lang/Math" ∧ y_Math_floorDiv.cls ≠ "java/lang/invoke/MethodHandle" ∧ y_Math_floorDiv.cls ≠ "java/lang/invoke/VarHandle" ∧ (parseMethodDescriptor y_Math_floorDiv.desc).map (fun d => d.parameters.length) = some 2 := by decide +kernel
abbrev b_Reader_init : ByteArray := prog_4_method_1_code
abbrev y_Reader_init : MethodName := ⟨"UpcastStreams$Reader", "<init>", "()V"⟩
abbrev w_Reader_init : List Cond := Cond.code y_Reader_init b_Reader_init 1 none :: usW
theorem k_Reader_init : Cond.code y_Reader_init b_Reader_init 1 none ∈ usW := us_m1 178 rfl (by decide)
theorem h_Reader_init : y_Reader_init.cls = "UpcastStreams$Reader" ∧ y_Reader_init.cls ≠ "java/lang/invoke/MethodHandle" ∧ y_Reader_init.cls ≠ "java/lang/invoke/VarHandle" ∧ (parseMethodDescriptor y_Reader_init.desc).map (fun d => d.parameters.length) = some 0 := by decide +kernel
abbrev b_Reader_begin : ByteArray := prog_4_method_2_code
abbrev y_Reader_begin : MethodName := ⟨"UpcastStreams$Reader", "begin", "(III)V"⟩
abbrev w_Reader_begin : List Cond := Cond.code y_Reader_begin b_Reader_begin 4 none :: usW
theorem k_Reader_begin : Cond.code y_Reader_begin b_Reader_begin 4 none ∈ usW := us_m3 74 rfl (by decide)
theorem h_Reader_begin : y_Reader_begin.cls = "UpcastStreams$Reader" ∧ y_Reader_begin.cls ≠ "java/lang/invoke/MethodHandle" ∧ y_Reader_begin.cls ≠ "java/lang/invoke/VarHandle" ∧ (parseMethodDescriptor y_Reader_begin.desc).map (fun d => d.parameters.length) = some 3 := by decide +kernel
abbrev b_Reader_moveToMark : ByteArray := prog_4_method_5_code
abbrev y_Reader_moveToMark : MethodName := ⟨"UpcastStreams$Reader", "moveToMark", "()I"⟩
abbrev w_Reader_moveToMark : List Cond := Cond.code y_Reader_moveToMark b_Reader_moveToMark 2 (some .int) :: usW
theorem k_Reader_moveToMark : Cond.code y_Reader_moveToMark b_Reader_moveToMark 2 (some .int) ∈ usW := us_m3 109 rfl (by decide)
theorem h_Reader_moveToMark : y_Reader_moveToMark.cls = "UpcastStreams$Reader" ∧ y_Reader_moveToMark.cls ≠ "java/lang/invoke/MethodHandle" ∧ y_Reader_moveToMark.cls ≠ "java/lang/invoke/VarHandle" ∧ (parseMethodDescriptor y_Reader_moveToMark.desc).map (fun d => d.parameters.length) = some 0 := by decide +kernel
abbrev b_Reader_wantsStream : ByteArray := prog_4_method_3_code
abbrev y_Reader_wantsStream : MethodName := ⟨"UpcastStreams$Reader", "wantsStream", "(I)Z"⟩
abbrev w_Reader_wantsStream : List Cond := Cond.code y_Reader_wantsStream b_Reader_wantsStream 2 (some .boolean) :: usW
theorem k_Reader_wantsStream : Cond.code y_Reader_wantsStream b_Reader_wantsStream 2 (some .boolean) ∈ usW := us_m3 85 rfl (by decide)
theorem h_Reader_wantsStream : y_Reader_wantsStream.cls = "UpcastStreams$Reader" ∧ y_Reader_wantsStream.cls ≠ "java/lang/invoke/MethodHandle" ∧ y_Reader_wantsStream.cls ≠ "java/lang/invoke/VarHandle" ∧ (parseMethodDescriptor y_Reader_wantsStream.desc).map (fun d => d.parameters.length) = some 1 := by decide +kernel
abbrev b_Reader_wantsType : ByteArray := prog_4_method_4_code
abbrev y_Reader_wantsType : MethodName := ⟨"UpcastStreams$Reader", "wantsType", "(I)Z"⟩
abbrev w_Reader_wantsType : List Cond := Cond.code y_Reader_wantsType b_Reader_wantsType 2 (some .boolean) :: usW
theorem k_Reader_wantsType : Cond.code y_Reader_wantsType b_Reader_wantsType 2 (some .boolean) ∈ usW := us_m3 93 rfl (by decide)
theorem h_Reader_wantsType : y_Reader_wantsType.cls = "UpcastStreams$Reader" ∧ y_Reader_wantsType.cls ≠ "java/lang/invoke/MethodHandle" ∧ y_Reader_wantsType.cls ≠ "java/lang/invoke/VarHandle" ∧ (parseMethodDescriptor y_Reader_wantsType.desc).map (fun d => d.parameters.length) = some 1 := by decide +kernel
abbrev b_Row_init : ByteArray := prog_5_method_1_code
abbrev y_Row_init : MethodName := ⟨"UpcastStreams$Row", "<init>", "(I)V"⟩
abbrev w_Row_init : List Cond := Cond.code y_Row_init b_Row_init 2 none :: usW
theorem k_Row_init : Cond.code y_Row_init b_Row_init 2 none ∈ usW := us_m1 36 rfl (by decide)
theorem h_Row_init : y_Row_init.cls = "UpcastStreams$Row" ∧ y_Row_init.cls ≠ "java/lang/invoke/MethodHandle" ∧ y_Row_init.cls ≠ "java/lang/invoke/VarHandle" ∧ (parseMethodDescriptor y_Row_init.desc).map (fun d => d.parameters.length) = some 1 := by decide +kernel
abbrev b_Row_clear : ByteArray := prog_5_method_2_code
abbrev y_Row_clear : MethodName := ⟨"UpcastStreams$Row", "clear", "()V"⟩
abbrev w_Row_clear : List Cond := Cond.code y_Row_clear b_Row_clear 1 none :: usW
theorem k_Row_clear : Cond.code y_Row_clear b_Row_clear 1 none ∈ usW := us_m2 22 rfl (by decide)
theorem h_Row_clear : y_Row_clear.cls = "UpcastStreams$Row" ∧ y_Row_clear.cls ≠ "java/lang/invoke/MethodHandle" ∧ y_Row_clear.cls ≠ "java/lang/invoke/VarHandle" ∧ (parseMethodDescriptor y_Row_clear.desc).map (fun d => d.parameters.length) = some 0 := by decide +kernel
abbrev b_Row_put : ByteArray := prog_5_method_3_code
abbrev y_Row_put : MethodName := ⟨"UpcastStreams$Row", "put", "(IIII)V"⟩
abbrev w_Row_put : List Cond := Cond.code y_Row_put b_Row_put 5 none :: usW
theorem k_Row_put : Cond.code y_Row_put b_Row_put 5 none ∈ usW := us_m2 14 rfl (by decide)
theorem h_Row_put : y_Row_put.cls = "UpcastStreams$Row" ∧ y_Row_put.cls ≠ "java/lang/invoke/MethodHandle" ∧ y_Row_put.cls ≠ "java/lang/invoke/VarHandle" ∧ (parseMethodDescriptor y_Row_put.desc).map (fun d => d.parameters.length) = some 4 := by decide +kernel
abbrev b_Row_putFrom : ByteArray := prog_5_method_4_code
abbrev y_Row_putFrom : MethodName := ⟨"UpcastStreams$Row", "putFrom", "(LUpcastStreams$Row;I)V"⟩
abbrev w_Row_putFrom : List Cond := Cond.code y_Row_putFrom b_Row_putFrom 3 none :: usW
theorem k_Row_putFrom : Cond.code y_Row_putFrom b_Row_putFrom 3 none ∈ usW := us_m2 193 rfl (by decide)
theorem h_Row_putFrom : y_Row_putFrom.cls = "UpcastStreams$Row" ∧ y_Row_putFrom.cls ≠ "java/lang/invoke/MethodHandle" ∧ y_Row_putFrom.cls ≠ "java/lang/invoke/VarHandle" ∧ (parseMethodDescriptor y_Row_putFrom.desc).map (fun d => d.parameters.length) = some 2 := by decide +kernel
abbrev b_Rules_init : ByteArray := prog_6_method_1_code
abbrev y_Rules_init : MethodName := ⟨"UpcastStreams$Rules", "<init>", "()V"⟩
abbrev w_Rules_init : List Cond := Cond.code y_Rules_init b_Rules_init 1 none :: usW
theorem k_Rules_init : Cond.code y_Rules_init b_Rules_init 1 none ∈ usW := us_m1 104 rfl (by decide)
theorem h_Rules_init : y_Rules_init.cls = "UpcastStreams$Rules" ∧ y_Rules_init.cls ≠ "java/lang/invoke/MethodHandle" ∧ y_Rules_init.cls ≠ "java/lang/invoke/VarHandle" ∧ (parseMethodDescriptor y_Rules_init.desc).map (fun d => d.parameters.length) = some 0 := by decide +kernel
abbrev b_Rules_bringUp : ByteArray := prog_6_method_3_code
abbrev y_Rules_bringUp : MethodName := ⟨"UpcastStreams$Rules", "bringUp", "(LUpcastStreams$Row;I)LUpcastStreams$Row;"⟩
abbrev w_Rules_bringUp : List Cond := Cond.code y_Rules_bringUp b_Rules_bringUp 4 (some (.object "UpcastStreams$Row")) :: usW
theorem k_Rules_bringUp : Cond.code y_Rules_bringUp b_Rules_bringUp 4 (some (.object "UpcastStreams$Row")) ∈ usW := us_m2 188 rfl (by decide)
theorem h_Rules_bringUp : y_Rules_bringUp.cls = "UpcastStreams$Rules" ∧ y_Rules_bringUp.cls ≠ "java/lang/invoke/MethodHandle" ∧ y_Rules_bringUp.cls ≠ "java/lang/invoke/VarHandle" ∧ (parseMethodDescriptor y_Rules_bringUp.desc).map (fun d => d.parameters.length) = some 2 := by decide +kernel
abbrev b_Rules_change : ByteArray := prog_6_method_2_code
abbrev y_Rules_change : MethodName := ⟨"UpcastStreams$Rules", "change", "(IIII)V"⟩
abbrev w_Rules_change : List Cond := Cond.code y_Rules_change b_Rules_change 6 none :: usW
theorem k_Rules_change : Cond.code y_Rules_change b_Rules_change 6 none ∈ usW := us_m3 45 rfl (by decide)
theorem h_Rules_change : y_Rules_change.cls = "UpcastStreams$Rules" ∧ y_Rules_change.cls ≠ "java/lang/invoke/MethodHandle" ∧ y_Rules_change.cls ≠ "java/lang/invoke/VarHandle" ∧ (parseMethodDescriptor y_Rules_change.desc).map (fun d => d.parameters.length) = some 4 := by decide +kernel
abbrev b_Rules_ruleOf : ByteArray := prog_6_method_4_code
abbrev y_Rules_ruleOf : MethodName := ⟨"UpcastStreams$Rules", "ruleOf", "(II)I"⟩
abbrev w_Rules_ruleOf : List Cond := Cond.code y_Rules_ruleOf b_Rules_ruleOf 2 (some .int) :: usW
theorem k_Rules_ruleOf : Cond.code y_Rules_ruleOf b_Rules_ruleOf 2 (some .int) ∈ usW := us_m2 205 rfl (by decide)
theorem h_Rules_ruleOf : y_Rules_ruleOf.cls = "UpcastStreams$Rules" ∧ y_Rules_ruleOf.cls ≠ "java/lang/invoke/MethodHandle" ∧ y_Rules_ruleOf.cls ≠ "java/lang/invoke/VarHandle" ∧ (parseMethodDescriptor y_Rules_ruleOf.desc).map (fun d => d.parameters.length) = some 2 := by decide +kernel
abbrev b_Rules_step : ByteArray := prog_6_method_6_code
abbrev y_Rules_step : MethodName := ⟨"UpcastStreams$Rules", "step", "(IIII)V"⟩
abbrev w_Rules_step : List Cond := Cond.code y_Rules_step b_Rules_step 8 none :: usW
theorem k_Rules_step : Cond.code y_Rules_step b_Rules_step 8 none ∈ usW := us_m2 202 rfl (by decide)
theorem h_Rules_step : y_Rules_step.cls = "UpcastStreams$Rules" ∧ y_Rules_step.cls ≠ "java/lang/invoke/MethodHandle" ∧ y_Rules_step.cls ≠ "java/lang/invoke/VarHandle" ∧ (parseMethodDescriptor y_Rules_step.desc).map (fun d => d.parameters.length) = some 4 := by decide +kernel
abbrev b_Rules_stepAll : ByteArray := prog_6_method_5_code
abbrev y_Rules_stepAll : MethodName := ⟨"UpcastStreams$Rules", "stepAll", "()V"⟩
abbrev w_Rules_stepAll : List Cond := Cond.code y_Rules_stepAll b_Rules_stepAll 3 none :: usW
theorem k_Rules_stepAll : Cond.code y_Rules_stepAll b_Rules_stepAll 3 none ∈ usW := us_m2 198 rfl (by decide)
theorem h_Rules_stepAll : y_Rules_stepAll.cls = "UpcastStreams$Rules" ∧ y_Rules_stepAll.cls ≠ "java/lang/invoke/MethodHandle" ∧ y_Rules_stepAll.cls ≠ "java/lang/invoke/VarHandle" ∧ (parseMethodDescriptor y_Rules_stepAll.desc).map (fun d => d.parameters.length) = some 0 := by decide +kernel
abbrev b_Shelf_init : ByteArray := prog_7_method_1_code
abbrev y_Shelf_init : MethodName := ⟨"UpcastStreams$Shelf", "<init>", "()V"⟩
abbrev w_Shelf_init : List Cond := Cond.code y_Shelf_init b_Shelf_init 1 none :: usW
theorem k_Shelf_init : Cond.code y_Shelf_init b_Shelf_init 1 none ∈ usW := us_m1 126 rfl (by decide)
theorem h_Shelf_init : y_Shelf_init.cls = "UpcastStreams$Shelf" ∧ y_Shelf_init.cls ≠ "java/lang/invoke/MethodHandle" ∧ y_Shelf_init.cls ≠ "java/lang/invoke/VarHandle" ∧ (parseMethodDescriptor y_Shelf_init.desc).map (fun d => d.parameters.length) = some 0 := by decide +kernel
abbrev b_Shelf_clear : ByteArray := prog_7_method_2_code
abbrev y_Shelf_clear : MethodName := ⟨"UpcastStreams$Shelf", "clear", "()V"⟩
abbrev w_Shelf_clear : List Cond := Cond.code y_Shelf_clear b_Shelf_clear 1 none :: usW
theorem k_Shelf_clear : Cond.code y_Shelf_clear b_Shelf_clear 1 none ∈ usW := us_m3 49 rfl (by decide)
theorem h_Shelf_clear : y_Shelf_clear.cls = "UpcastStreams$Shelf" ∧ y_Shelf_clear.cls ≠ "java/lang/invoke/MethodHandle" ∧ y_Shelf_clear.cls ≠ "java/lang/invoke/VarHandle" ∧ (parseMethodDescriptor y_Shelf_clear.desc).map (fun d => d.parameters.length) = some 0 := by decide +kernel
abbrev b_Shelf_keep : ByteArray := prog_7_method_3_code
abbrev y_Shelf_keep : MethodName := ⟨"UpcastStreams$Shelf", "keep", "(ILUpcastStreams$State;)V"⟩
abbrev w_Shelf_keep : List Cond := Cond.code y_Shelf_keep b_Shelf_keep 4 none :: usW
theorem k_Shelf_keep : Cond.code y_Shelf_keep b_Shelf_keep 4 none ∈ usW := us_m3 3 rfl (by decide)
theorem h_Shelf_keep : y_Shelf_keep.cls = "UpcastStreams$Shelf" ∧ y_Shelf_keep.cls ≠ "java/lang/invoke/MethodHandle" ∧ y_Shelf_keep.cls ≠ "java/lang/invoke/VarHandle" ∧ (parseMethodDescriptor y_Shelf_keep.desc).map (fun d => d.parameters.length) = some 2 := by decide +kernel
abbrev b_Shelf_restore : ByteArray := prog_7_method_4_code
abbrev y_Shelf_restore : MethodName := ⟨"UpcastStreams$Shelf", "restore", "(LUpcastStreams$State;I)I"⟩
abbrev w_Shelf_restore : List Cond := Cond.code y_Shelf_restore b_Shelf_restore 3 (some .int) :: usW
theorem k_Shelf_restore : Cond.code y_Shelf_restore b_Shelf_restore 3 (some .int) ∈ usW := us_m2 176 rfl (by decide)
theorem h_Shelf_restore : y_Shelf_restore.cls = "UpcastStreams$Shelf" ∧ y_Shelf_restore.cls ≠ "java/lang/invoke/MethodHandle" ∧ y_Shelf_restore.cls ≠ "java/lang/invoke/VarHandle" ∧ (parseMethodDescriptor y_Shelf_restore.desc).map (fun d => d.parameters.length) = some 2 := by decide +kernel
abbrev b_Shelf_versionOf : ByteArray := prog_7_method_5_code
abbrev y_Shelf_versionOf : MethodName := ⟨"UpcastStreams$Shelf", "versionOf", "(I)I"⟩
abbrev w_Shelf_versionOf : List Cond := Cond.code y_Shelf_versionOf b_Shelf_versionOf 2 (some .int) :: usW
theorem k_Shelf_versionOf : Cond.code y_Shelf_versionOf b_Shelf_versionOf 2 (some .int) ∈ usW := us_m2 50 rfl (by decide)
theorem h_Shelf_versionOf : y_Shelf_versionOf.cls = "UpcastStreams$Shelf" ∧ y_Shelf_versionOf.cls ≠ "java/lang/invoke/MethodHandle" ∧ y_Shelf_versionOf.cls ≠ "java/lang/invoke/VarHandle" ∧ (parseMethodDescriptor y_Shelf_versionOf.desc).map (fun d => d.parameters.length) = some 1 := by decide +kernel
abbrev b_State_init : ByteArray := prog_8_method_1_code
abbrev y_State_init : MethodName := ⟨"UpcastStreams$State", "<init>", "()V"⟩
abbrev w_State_init : List Cond := Cond.code y_State_init b_State_init 1 none :: usW
theorem k_State_init : Cond.code y_State_init b_State_init 1 none ∈ usW := us_m1 132 rfl (by decide)
theorem h_State_init : y_State_init.cls = "UpcastStreams$State" ∧ y_State_init.cls ≠ "java/lang/invoke/MethodHandle" ∧ y_State_init.cls ≠ "java/lang/invoke/VarHandle" ∧ (parseMethodDescriptor y_State_init.desc).map (fun d => d.parameters.length) = some 0 := by decide +kernel
abbrev b_State_become : ByteArray := prog_8_method_3_code
abbrev y_State_become : MethodName := ⟨"UpcastStreams$State", "become", "(LUpcastStreams$State;)V"⟩
abbrev w_State_become : List Cond := Cond.code y_State_become b_State_become 2 none :: usW
theorem k_State_become : Cond.code y_State_become b_State_become 2 none ∈ usW := us_m2 180 rfl (by decide)
theorem h_State_become : y_State_become.cls = "UpcastStreams$State" ∧ y_State_become.cls ≠ "java/lang/invoke/MethodHandle" ∧ y_State_become.cls ≠ "java/lang/invoke/VarHandle" ∧ (parseMethodDescriptor y_State_become.desc).map (fun d => d.parameters.length) = some 1 := by decide +kernel
abbrev b_State_change : ByteArray := prog_8_method_6_code
abbrev y_State_change : MethodName := ⟨"UpcastStreams$State", "change", "(II)V"⟩
abbrev w_State_change : List Cond := Cond.code y_State_change b_State_change 3 none :: usW
theorem k_State_change : Cond.code y_State_change b_State_change 3 none ∈ usW := us_m2 221 rfl (by decide)
theorem h_State_change : y_State_change.cls = "UpcastStreams$State" ∧ y_State_change.cls ≠ "java/lang/invoke/MethodHandle" ∧ y_State_change.cls ≠ "java/lang/invoke/VarHandle" ∧ (parseMethodDescriptor y_State_change.desc).map (fun d => d.parameters.length) = some 2 := by decide +kernel
abbrev b_State_clear : ByteArray := prog_8_method_2_code
abbrev y_State_clear : MethodName := ⟨"UpcastStreams$State", "clear", "()V"⟩
abbrev w_State_clear : List Cond := Cond.code y_State_clear b_State_clear 1 none :: usW
theorem k_State_clear : Cond.code y_State_clear b_State_clear 1 none ∈ usW := us_m2 184 rfl (by decide)
theorem h_State_clear : y_State_clear.cls = "UpcastStreams$State" ∧ y_State_clear.cls ≠ "java/lang/invoke/MethodHandle" ∧ y_State_clear.cls ≠ "java/lang/invoke/VarHandle" ∧ (parseMethodDescriptor y_State_clear.desc).map (fun d => d.parameters.length) = some 0 := by decide +kernel
abbrev b_State_count : ByteArray := prog_8_method_7_code
abbrev y_State_count : MethodName := ⟨"UpcastStreams$State", "count", "(III)V"⟩
abbrev w_State_count : List Cond := Cond.code y_State_count b_State_count 4 none :: usW
theorem k_State_count : Cond.code y_State_count b_State_count 4 none ∈ usW := us_m2 225 rfl (by decide)
theorem h_State_count : y_State_count.cls = "UpcastStreams$State" ∧ y_State_count.cls ≠ "java/lang/invoke/MethodHandle" ∧ y_State_count.cls ≠ "java/lang/invoke/VarHandle" ∧ (parseMethodDescriptor y_State_count.desc).map (fun d => d.parameters.length) = some 3 := by decide +kernel
abbrev b_State_fits : ByteArray := prog_8_method_5_code
abbrev y_State_fits : MethodName := ⟨"UpcastStreams$State", "fits", "(II)Z"⟩
abbrev w_State_fits : List Cond := Cond.code y_State_fits b_State_fits 3 (some .boolean) :: usW
theorem k_State_fits : Cond.code y_State_fits b_State_fits 3 (some .boolean) ∈ usW := us_m2 217 rfl (by decide)
theorem h_State_fits : y_State_fits.cls = "UpcastStreams$State" ∧ y_State_fits.cls ≠ "java/lang/invoke/MethodHandle" ∧ y_State_fits.cls ≠ "java/lang/invoke/VarHandle" ∧ (parseMethodDescriptor y_State_fits.desc).map (fun d => d.parameters.length) = some 2 := by decide +kernel
abbrev b_State_fold : ByteArray := prog_8_method_4_code
abbrev y_State_fold : MethodName := ⟨"UpcastStreams$State", "fold", "(LUpcastStreams$Row;)V"⟩
abbrev w_State_fold : List Cond := Cond.code y_State_fold b_State_fold 3 none :: usW
theorem k_State_fold : Cond.code y_State_fold b_State_fold 3 none ∈ usW := us_m2 213 rfl (by decide)
theorem h_State_fold : y_State_fold.cls = "UpcastStreams$State" ∧ y_State_fold.cls ≠ "java/lang/invoke/MethodHandle" ∧ y_State_fold.cls ≠ "java/lang/invoke/VarHandle" ∧ (parseMethodDescriptor y_State_fold.desc).map (fun d => d.parameters.length) = some 1 := by decide +kernel
abbrev b_State_partOf : ByteArray := prog_8_method_8_code
abbrev y_State_partOf : MethodName := ⟨"UpcastStreams$State", "partOf", "(I)J"⟩
abbrev w_State_partOf : List Cond := Cond.code y_State_partOf b_State_partOf 2 (some .long) :: usW
theorem k_State_partOf : Cond.code y_State_partOf b_State_partOf 2 (some .long) ∈ usW := us_m2 41 rfl (by decide)
theorem h_State_partOf : y_State_partOf.cls = "UpcastStreams$State" ∧ y_State_partOf.cls ≠ "java/lang/invoke/MethodHandle" ∧ y_State_partOf.cls ≠ "java/lang/invoke/VarHandle" ∧ (parseMethodDescriptor y_State_partOf.desc).map (fun d => d.parameters.length) = some 1 := by decide +kernel
abbrev b_X_init : ByteArray := prog_1_method_1_code
abbrev y_X_init : MethodName := ⟨"UpcastStreams", "<init>", "(I)V"⟩
abbrev w_X_init : List Cond := Cond.code y_X_init b_X_init 3 none :: usW
theorem k_X_init : Cond.code y_X_init b_X_init 3 none ∈ usW := us_m1 22 rfl (by decide)
theorem h_X_init : y_X_init.cls = "UpcastStreams" ∧ y_X_init.cls ≠ "java/lang/invoke/MethodHandle" ∧ y_X_init.cls ≠ "java/lang/invoke/VarHandle" ∧ (parseMethodDescriptor y_X_init.desc).map (fun d => d.parameters.length) = some 1 := by decide +kernel
abbrev b_X_comes : ByteArray := prog_1_method_9_code
abbrev y_X_comes : MethodName := ⟨"UpcastStreams", "comes", "(I)I"⟩
abbrev w_X_comes : List Cond := Cond.code y_X_comes b_X_comes 2 (some .int) :: usW
theorem k_X_comes : Cond.code y_X_comes b_X_comes 2 (some .int) ∈ usW := us_m3 56 rfl (by decide)
theorem h_X_comes : y_X_comes.cls = "UpcastStreams" ∧ y_X_comes.cls ≠ "java/lang/invoke/MethodHandle" ∧ y_X_comes.cls ≠ "java/lang/invoke/VarHandle" ∧ (parseMethodDescriptor y_X_comes.desc).map (fun d => d.parameters.length) = some 1 := by decide +kernel
abbrev b_X_commit : ByteArray := prog_1_method_4_code
abbrev y_X_commit : MethodName := ⟨"UpcastStreams", "commit", "(II)I"⟩
abbrev w_X_commit : List Cond := Cond.code y_X_commit b_X_commit 6 (some .int) :: usW
theorem k_X_commit : Cond.code y_X_commit b_X_commit 6 (some .int) ∈ usW := us_m2 70 rfl (by decide)
theorem h_X_commit : y_X_commit.cls = "UpcastStreams" ∧ y_X_commit.cls ≠ "java/lang/invoke/MethodHandle" ∧ y_X_commit.cls ≠ "java/lang/invoke/VarHandle" ∧ (parseMethodDescriptor y_X_commit.desc).map (fun d => d.parameters.length) = some 2 := by decide +kernel
abbrev b_X_cursor : ByteArray := prog_1_method_16_code
abbrev y_X_cursor : MethodName := ⟨"UpcastStreams", "cursor", "(I)I"⟩
abbrev w_X_cursor : List Cond := Cond.code y_X_cursor b_X_cursor 2 (some .int) :: usW
theorem k_X_cursor : Cond.code y_X_cursor b_X_cursor 2 (some .int) ∈ usW := us_m2 54 rfl (by decide)
theorem h_X_cursor : y_X_cursor.cls = "UpcastStreams" ∧ y_X_cursor.cls ≠ "java/lang/invoke/MethodHandle" ∧ y_X_cursor.cls ≠ "java/lang/invoke/VarHandle" ∧ (parseMethodDescriptor y_X_cursor.desc).map (fun d => d.parameters.length) = some 1 := by decide +kernel
abbrev b_X_done : ByteArray := prog_1_method_15_code
abbrev y_X_done : MethodName := ⟨"UpcastStreams", "done", "(I)I"⟩
abbrev w_X_done : List Cond := Cond.code y_X_done b_X_done 2 (some .int) :: usW
theorem k_X_done : Cond.code y_X_done b_X_done 2 (some .int) ∈ usW := us_m3 105 rfl (by decide)
theorem h_X_done : y_X_done.cls = "UpcastStreams" ∧ y_X_done.cls ≠ "java/lang/invoke/MethodHandle" ∧ y_X_done.cls ≠ "java/lang/invoke/VarHandle" ∧ (parseMethodDescriptor y_X_done.desc).map (fun d => d.parameters.length) = some 1 := by decide +kernel
abbrev b_X_field : ByteArray := prog_1_method_11_code
abbrev y_X_field : MethodName := ⟨"UpcastStreams", "field", "(I)J"⟩
abbrev w_X_field : List Cond := Cond.code y_X_field b_X_field 2 (some .long) :: usW
theorem k_X_field : Cond.code y_X_field b_X_field 2 (some .long) ∈ usW := us_m2 37 rfl (by decide)
theorem h_X_field : y_X_field.cls = "UpcastStreams" ∧ y_X_field.cls ≠ "java/lang/invoke/MethodHandle" ∧ y_X_field.cls ≠ "java/lang/invoke/VarHandle" ∧ (parseMethodDescriptor y_X_field.desc).map (fun d => d.parameters.length) = some 1 := by decide +kernel
abbrev b_X_follow : ByteArray := prog_1_method_13_code
abbrev y_X_follow : MethodName := ⟨"UpcastStreams", "follow", "(IIII)V"⟩
abbrev w_X_follow : List Cond := Cond.code y_X_follow b_X_follow 5 none :: usW
theorem k_X_follow : Cond.code y_X_follow b_X_follow 5 none ∈ usW := us_m3 70 rfl (by decide)
theorem h_X_follow : y_X_follow.cls = "UpcastStreams" ∧ y_X_follow.cls ≠ "java/lang/invoke/MethodHandle" ∧ y_X_follow.cls ≠ "java/lang/invoke/VarHandle" ∧ (parseMethodDescriptor y_X_follow.desc).map (fun d => d.parameters.length) = some 4 := by decide +kernel
abbrev b_X_hand : ByteArray := prog_1_method_17_code
abbrev y_X_hand : MethodName := ⟨"UpcastStreams", "hand", "(II)I"⟩
abbrev w_X_hand : List Cond := Cond.code y_X_hand b_X_hand 3 (some .int) :: usW
theorem k_X_hand : Cond.code y_X_hand b_X_hand 3 (some .int) ∈ usW := us_m3 116 rfl (by decide)
theorem h_X_hand : y_X_hand.cls = "UpcastStreams" ∧ y_X_hand.cls ≠ "java/lang/invoke/MethodHandle" ∧ y_X_hand.cls ≠ "java/lang/invoke/VarHandle" ∧ (parseMethodDescriptor y_X_hand.desc).map (fun d => d.parameters.length) = some 2 := by decide +kernel
abbrev b_X_isReader : ByteArray := prog_1_method_20_code
abbrev y_X_isReader : MethodName := ⟨"UpcastStreams", "isReader", "(I)Z"⟩
abbrev w_X_isReader : List Cond := Cond.code y_X_isReader b_X_isReader 1 (some .boolean) :: usW
theorem k_X_isReader : Cond.code y_X_isReader b_X_isReader 1 (some .boolean) ∈ usW := us_m2 57 rfl (by decide)
theorem h_X_isReader : y_X_isReader.cls = "UpcastStreams" ∧ y_X_isReader.cls ≠ "java/lang/invoke/MethodHandle" ∧ y_X_isReader.cls ≠ "java/lang/invoke/VarHandle" ∧ (parseMethodDescriptor y_X_isReader.desc).map (fun d => d.parameters.length) = some 1 := by decide +kernel
abbrev b_X_isStored : ByteArray := prog_1_method_21_code
abbrev y_X_isStored : MethodName := ⟨"UpcastStreams", "isStored", "(I)Z"⟩
abbrev w_X_isStored : List Cond := Cond.code y_X_isStored b_X_isStored 2 (some .boolean) :: usW
theorem k_X_isStored : Cond.code y_X_isStored b_X_isStored 2 (some .boolean) ∈ usW := us_m3 15 rfl (by decide)
theorem h_X_isStored : y_X_isStored.cls = "UpcastStreams" ∧ y_X_isStored.cls ≠ "java/lang/invoke/MethodHandle" ∧ y_X_isStored.cls ≠ "java/lang/invoke/VarHandle" ∧ (parseMethodDescriptor y_X_isStored.desc).map (fun d => d.parameters.length) = some 1 := by decide +kernel
abbrev b_X_isStream : ByteArray := prog_1_method_19_code
abbrev y_X_isStream : MethodName := ⟨"UpcastStreams", "isStream", "(I)Z"⟩
abbrev w_X_isStream : List Cond := Cond.code y_X_isStream b_X_isStream 1 (some .boolean) :: usW
theorem k_X_isStream : Cond.code y_X_isStream b_X_isStream 1 (some .boolean) ∈ usW := us_m2 29 rfl (by decide)
theorem h_X_isStream : y_X_isStream.cls = "UpcastStreams" ∧ y_X_isStream.cls ≠ "java/lang/invoke/MethodHandle" ∧ y_X_isStream.cls ≠ "java/lang/invoke/VarHandle" ∧ (parseMethodDescriptor y_X_isStream.desc).map (fun d => d.parameters.length) = some 1 := by decide +kernel
abbrev b_X_isType : ByteArray := prog_1_method_18_code
abbrev y_X_isType : MethodName := ⟨"UpcastStreams", "isType", "(I)Z"⟩
abbrev w_X_isType : List Cond := Cond.code y_X_isType b_X_isType 1 (some .boolean) :: usW
theorem k_X_isType : Cond.code y_X_isType b_X_isType 1 (some .boolean) ∈ usW := us_m2 10 rfl (by decide)
theorem h_X_isType : y_X_isType.cls = "UpcastStreams" ∧ y_X_isType.cls ≠ "java/lang/invoke/MethodHandle" ∧ y_X_isType.cls ≠ "java/lang/invoke/VarHandle" ∧ (parseMethodDescriptor y_X_isType.desc).map (fun d => d.parameters.length) = some 1 := by decide +kernel
abbrev b_X_learn : ByteArray := prog_1_method_8_code
abbrev y_X_learn : MethodName := ⟨"UpcastStreams", "learn", "(IIII)V"⟩
abbrev w_X_learn : List Cond := Cond.code y_X_learn b_X_learn 6 none :: usW
theorem k_X_learn : Cond.code y_X_learn b_X_learn 6 none ∈ usW := us_m3 41 rfl (by decide)
theorem h_X_learn : y_X_learn.cls = "UpcastStreams" ∧ y_X_learn.cls ≠ "java/lang/invoke/MethodHandle" ∧ y_X_learn.cls ≠ "java/lang/invoke/VarHandle" ∧ (parseMethodDescriptor y_X_learn.desc).map (fun d => d.parameters.length) = some 4 := by decide +kernel
abbrev b_X_load : ByteArray := prog_1_method_10_code
abbrev y_X_load : MethodName := ⟨"UpcastStreams", "load", "(II)I"⟩
abbrev w_X_load : List Cond := Cond.code y_X_load b_X_load 3 (some .int) :: usW
theorem k_X_load : Cond.code y_X_load b_X_load 3 (some .int) ∈ usW := us_m3 63 rfl (by decide)
theorem h_X_load : y_X_load.cls = "UpcastStreams" ∧ y_X_load.cls ≠ "java/lang/invoke/MethodHandle" ∧ y_X_load.cls ≠ "java/lang/invoke/VarHandle" ∧ (parseMethodDescriptor y_X_load.desc).map (fun d => d.parameters.length) = some 2 := by decide +kernel
abbrev b_X_loadInto : ByteArray := prog_1_method_24_code
abbrev y_X_loadInto : MethodName := ⟨"UpcastStreams", "loadInto", "(LUpcastStreams$State;II)I"⟩
abbrev w_X_loadInto : List Cond := Cond.code y_X_loadInto b_X_loadInto 6 (some .int) :: usW
theorem k_X_loadInto : Cond.code y_X_loadInto b_X_loadInto 6 (some .int) ∈ usW := us_m2 172 rfl (by decide)
theorem h_X_loadInto : y_X_loadInto.cls = "UpcastStreams" ∧ y_X_loadInto.cls ≠ "java/lang/invoke/MethodHandle" ∧ y_X_loadInto.cls ≠ "java/lang/invoke/VarHandle" ∧ (parseMethodDescriptor y_X_loadInto.desc).map (fun d => d.parameters.length) = some 3 := by decide +kernel
abbrev b_X_poll : ByteArray := prog_1_method_14_code
abbrev y_X_poll : MethodName := ⟨"UpcastStreams", "poll", "(II)I"⟩
abbrev w_X_poll : List Cond := Cond.code y_X_poll b_X_poll 6 (some .int) :: usW
theorem k_X_poll : Cond.code y_X_poll b_X_poll 6 (some .int) ∈ usW := us_m3 81 rfl (by decide)
theorem h_X_poll : y_X_poll.cls = "UpcastStreams" ∧ y_X_poll.cls ≠ "java/lang/invoke/MethodHandle" ∧ y_X_poll.cls ≠ "java/lang/invoke/VarHandle" ∧ (parseMethodDescriptor y_X_poll.desc).map (fun d => d.parameters.length) = some 2 := by decide +kernel
abbrev b_X_snapshot : ByteArray := prog_1_method_12_code
abbrev y_X_snapshot : MethodName := ⟨"UpcastStreams", "snapshot", "(II)I"⟩
abbrev w_X_snapshot : List Cond := Cond.code y_X_snapshot b_X_snapshot 3 (some .int) :: usW
theorem k_X_snapshot : Cond.code y_X_snapshot b_X_snapshot 3 (some .int) ∈ usW := us_m2 46 rfl (by decide)
theorem h_X_snapshot : y_X_snapshot.cls = "UpcastStreams" ∧ y_X_snapshot.cls ≠ "java/lang/invoke/MethodHandle" ∧ y_X_snapshot.cls ≠ "java/lang/invoke/VarHandle" ∧ (parseMethodDescriptor y_X_snapshot.desc).map (fun d => d.parameters.length) = some 2 := by decide +kernel
abbrev b_X_stage : ByteArray := prog_1_method_2_code
abbrev y_X_stage : MethodName := ⟨"UpcastStreams", "stage", "(IIII)Z"⟩
abbrev w_X_stage : List Cond := Cond.code y_X_stage b_X_stage 5 (some .boolean) :: usW
theorem k_X_stage : Cond.code y_X_stage b_X_stage 5 (some .boolean) ∈ usW := us_m2 7 rfl (by decide)
theorem h_X_stage : y_X_stage.cls = "UpcastStreams" ∧ y_X_stage.cls ≠ "java/lang/invoke/MethodHandle" ∧ y_X_stage.cls ≠ "java/lang/invoke/VarHandle" ∧ (parseMethodDescriptor y_X_stage.desc).map (fun d => d.parameters.length) = some 4 := by decide +kernel
abbrev b_X_storeBatch : ByteArray := prog_1_method_23_code
abbrev y_X_storeBatch : MethodName := ⟨"UpcastStreams", "storeBatch", "(I)V"⟩
abbrev w_X_storeBatch : List Cond := Cond.code y_X_storeBatch b_X_storeBatch 3 none :: usW
theorem k_X_storeBatch : Cond.code y_X_storeBatch b_X_storeBatch 3 none ∈ usW := us_m2 234 rfl (by decide)
theorem h_X_storeBatch : y_X_storeBatch.cls = "UpcastStreams" ∧ y_X_storeBatch.cls ≠ "java/lang/invoke/MethodHandle" ∧ y_X_storeBatch.cls ≠ "java/lang/invoke/VarHandle" ∧ (parseMethodDescriptor y_X_storeBatch.desc).map (fun d => d.parameters.length) = some 1 := by decide +kernel
abbrev b_X_stored : ByteArray := prog_1_method_7_code
abbrev y_X_stored : MethodName := ⟨"UpcastStreams", "stored", "(II)I"⟩
abbrev w_X_stored : List Cond := Cond.code y_X_stored b_X_stored 3 (some .int) :: usW
theorem k_X_stored : Cond.code y_X_stored b_X_stored 3 (some .int) ∈ usW := us_m3 11 rfl (by decide)
theorem h_X_stored : y_X_stored.cls = "UpcastStreams" ∧ y_X_stored.cls ≠ "java/lang/invoke/MethodHandle" ∧ y_X_stored.cls ≠ "java/lang/invoke/VarHandle" ∧ (parseMethodDescriptor y_X_stored.desc).map (fun d => d.parameters.length) = some 2 := by decide +kernel
abbrev b_X_takeFrom : ByteArray := prog_1_method_25_code
abbrev y_X_takeFrom : MethodName := ⟨"UpcastStreams", "takeFrom", "(ILUpcastStreams$Reader;)I"⟩
abbrev w_X_takeFrom : List Cond := Cond.code y_X_takeFrom b_X_takeFrom 6 (some .int) :: usW
theorem k_X_takeFrom : Cond.code y_X_takeFrom b_X_takeFrom 6 (some .int) ∈ usW := us_m3 89 rfl (by decide)
theorem h_X_takeFrom : y_X_takeFrom.cls = "UpcastStreams" ∧ y_X_takeFrom.cls ≠ "java/lang/invoke/MethodHandle" ∧ y_X_takeFrom.cls ≠ "java/lang/invoke/VarHandle" ∧ (parseMethodDescriptor y_X_takeFrom.desc).map (fun d => d.parameters.length) = some 2 := by decide +kernel
abbrev b_X_total : ByteArray := prog_1_method_6_code
abbrev y_X_total : MethodName := ⟨"UpcastStreams", "total", "()I"⟩
abbrev w_X_total : List Cond := Cond.code y_X_total b_X_total 1 (some .int) :: usW
theorem k_X_total : Cond.code y_X_total b_X_total 1 (some .int) ∈ usW := us_m2 33 rfl (by decide)
theorem h_X_total : y_X_total.cls = "UpcastStreams" ∧ y_X_total.cls ≠ "java/lang/invoke/MethodHandle" ∧ y_X_total.cls ≠ "java/lang/invoke/VarHandle" ∧ (parseMethodDescriptor y_X_total.desc).map (fun d => d.parameters.length) = some 0 := by decide +kernel
abbrev b_X_tryBatch : ByteArray := prog_1_method_22_code
abbrev y_X_tryBatch : MethodName := ⟨"UpcastStreams", "tryBatch", "(I)I"⟩
abbrev w_X_tryBatch : List Cond := Cond.code y_X_tryBatch b_X_tryBatch 5 (some .int) :: usW
theorem k_X_tryBatch : Cond.code y_X_tryBatch b_X_tryBatch 5 (some .int) ∈ usW := us_m2 168 rfl (by decide)
theorem h_X_tryBatch : y_X_tryBatch.cls = "UpcastStreams" ∧ y_X_tryBatch.cls ≠ "java/lang/invoke/MethodHandle" ∧ y_X_tryBatch.cls ≠ "java/lang/invoke/VarHandle" ∧ (parseMethodDescriptor y_X_tryBatch.desc).map (fun d => d.parameters.length) = some 1 := by decide +kernel
abbrev b_X_unstage : ByteArray := prog_1_method_3_code
abbrev y_X_unstage : MethodName := ⟨"UpcastStreams", "unstage", "()I"⟩
abbrev w_X_unstage : List Cond := Cond.code y_X_unstage b_X_unstage 2 (some .int) :: usW
theorem k_X_unstage : Cond.code y_X_unstage b_X_unstage 2 (some .int) ∈ usW := us_m2 18 rfl (by decide)
theorem h_X_unstage : y_X_unstage.cls = "UpcastStreams" ∧ y_X_unstage.cls ≠ "java/lang/invoke/MethodHandle" ∧ y_X_unstage.cls ≠ "java/lang/invoke/VarHandle" ∧ (parseMethodDescriptor y_X_unstage.desc).map (fun d => d.parameters.length) = some 0 := by decide +kernel
abbrev b_X_version : ByteArray := prog_1_method_5_code
abbrev y_X_version : MethodName := ⟨"UpcastStreams", "version", "(I)I"⟩
abbrev w_X_version : List Cond := Cond.code y_X_version b_X_version 2 (some .int) :: usW
theorem k_X_version : Cond.code y_X_version b_X_version 2 (some .int) ∈ usW := us_m2 26 rfl (by decide)
theorem h_X_version : y_X_version.cls = "UpcastStreams" ∧ y_X_version.cls ≠ "java/lang/invoke/MethodHandle" ∧ y_X_version.cls ≠ "java/lang/invoke/VarHandle" ∧ (parseMethodDescriptor y_X_version.desc).map (fun d => d.parameters.length) = some 1 := by decide +kernel
