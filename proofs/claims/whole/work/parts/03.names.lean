/-! names: classes with their fields, methods, words of the tables by their places (written by wip/whole/gen_names.py) -/
def gw : List Cond := lw_tbl.filter goodWord
theorem gm {i : Nat} {w : Cond} (h : lw_tbl[i]? = some w) (hg : goodWord w = true) : w ∈ gw := List.mem_filter.mpr ⟨List.mem_of_getElem? h, hg⟩
theorem in_tb {w : Cond} (h : w ∈ tables_1) : w ∈ lw_tbl := List.mem_append_right _ h
theorem gm1 {i : Nat} {w : Cond} (h0 : tables_1_1[i]? = some w) (hg : goodWord w = true) : w ∈ gw := by
  have h : w ∈ tables_1_1 := List.mem_of_getElem? h0
  exact List.mem_filter.mpr ⟨in_tb (by unfold tables_1; exact List.mem_append_left _ h), hg⟩
theorem gm2 {i : Nat} {w : Cond} (h0 : tables_1_2[i]? = some w) (hg : goodWord w = true) : w ∈ gw := by
  have h : w ∈ tables_1_2 := List.mem_of_getElem? h0
  exact List.mem_filter.mpr ⟨in_tb (by unfold tables_1; exact List.mem_append_right _ (List.mem_append_left _ h)), hg⟩
theorem gm3 {i : Nat} {w : Cond} (h0 : tables_1_3[i]? = some w) (hg : goodWord w = true) : w ∈ gw := by
  have h : w ∈ tables_1_3 := List.mem_of_getElem? h0
  exact List.mem_filter.mpr ⟨in_tb (by unfold tables_1; exact List.mem_append_right _ (List.mem_append_right _ (List.mem_append_left _ h))), hg⟩
theorem gm4 {i : Nat} {w : Cond} (h0 : tables_1_4[i]? = some w) (hg : goodWord w = true) : w ∈ gw := by
  have h : w ∈ tables_1_4 := List.mem_of_getElem? h0
  exact List.mem_filter.mpr ⟨in_tb (by unfold tables_1; exact List.mem_append_right _ (List.mem_append_right _ (List.mem_append_right _ (List.mem_append_left _ h)))), hg⟩
theorem gm5 {i : Nat} {w : Cond} (h0 : tables_1_5[i]? = some w) (hg : goodWord w = true) : w ∈ gw := by
  have h : w ∈ tables_1_5 := List.mem_of_getElem? h0
  exact List.mem_filter.mpr ⟨in_tb (by unfold tables_1; exact List.mem_append_right _ (List.mem_append_right _ (List.mem_append_right _ (List.mem_append_right _ (List.mem_append_left _ h))))), hg⟩
theorem gm6 {i : Nat} {w : Cond} (h0 : tables_1_6[i]? = some w) (hg : goodWord w = true) : w ∈ gw := by
  have h : w ∈ tables_1_6 := List.mem_of_getElem? h0
  exact List.mem_filter.mpr ⟨in_tb (by unfold tables_1; exact List.mem_append_right _ (List.mem_append_right _ (List.mem_append_right _ (List.mem_append_right _ (List.mem_append_right _ (List.mem_append_left _ h)))))), hg⟩
theorem gm7 {i : Nat} {w : Cond} (h0 : tables_1_7[i]? = some w) (hg : goodWord w = true) : w ∈ gw := by
  have h : w ∈ tables_1_7 := List.mem_of_getElem? h0
  exact List.mem_filter.mpr ⟨in_tb (by unfold tables_1; exact List.mem_append_right _ (List.mem_append_right _ (List.mem_append_right _ (List.mem_append_right _ (List.mem_append_right _ (List.mem_append_right _ (List.mem_append_left _ h))))))), hg⟩
theorem gm8 {i : Nat} {w : Cond} (h0 : tables_1_8[i]? = some w) (hg : goodWord w = true) : w ∈ gw := by
  have h : w ∈ tables_1_8 := List.mem_of_getElem? h0
  exact List.mem_filter.mpr ⟨in_tb (by unfold tables_1; exact List.mem_append_right _ (List.mem_append_right _ (List.mem_append_right _ (List.mem_append_right _ (List.mem_append_right _ (List.mem_append_right _ (List.mem_append_right _ (h)))))))), hg⟩
theorem gms {ws : List Cond} (is : List Nat) (h : ws = is.filterMap (fun i => lw_tbl[i]?)) (hg : ws.all goodWord = true) : ∀ w ∈ ws, w ∈ gw := by
  intro w hw
  have h1 := List.all_eq_true.mp hg w hw
  rw [h] at hw
  obtain ⟨i, -, hi⟩ := List.mem_filterMap.mp hw
  exact gm hi h1
abbrev MI : Type := MethodName × ByteArray × Nat × Option FieldType × List (Nat × Nat × Nat × Nat)
def F_History : u_T := fun k => match k with
  | 0 => ("CascadeBus$History", "many", "I", false)
  | 1 => ("CascadeBus$History", "oldest", "I", false)
  | _ => ("CascadeBus$History", "states", "[LCascadeBus$State;", true)
def t_History : Nat → FieldType := fun k => match k with
  | 0 => .int
  | 1 => .int
  | _ => .array (.object "CascadeBus$State")
theorem n_History : ∀ a, a < 3 → ∀ b, b < 3 → a ≠ b → (F_History a).2.1 ≠ (F_History b).2.1 := by decide +kernel
theorem t_History_ok : ∀ k, k < 3 → parseFieldDescriptor (F_History k).2.2.1 = some (t_History k) := by decide +kernel
theorem i_History : ∀ w ∈ u_ws "CascadeBus$History" F_History 3, w ∈ gw := gms [425, 427, 429] (by decide +kernel) (by decide +kernel)
def F_Layout : u_T := fun k => match k with
  | 0 => ("CascadeBus$Layout", "length", "I", false)
  | 1 => ("CascadeBus$Layout", "slots", "I", false)
  | 2 => ("CascadeBus$Layout", "taken", "I", false)
  | 3 => ("CascadeBus$Layout", "order", "[I", true)
  | 4 => ("CascadeBus$Layout", "turn", "[I", true)
  | 5 => ("CascadeBus$Layout", "start", "[I", true)
  | 6 => ("CascadeBus$Layout", "end", "[I", true)
  | 7 => ("CascadeBus$Layout", "slot", "[I", true)
  | 8 => ("CascadeBus$Layout", "backSlot", "[I", true)
  | _ => ("CascadeBus$Layout", "deviceEnd", "[I", true)
def t_Layout : Nat → FieldType := fun k => match k with
  | 0 => .int
  | 1 => .int
  | 2 => .int
  | 3 => .array (.int)
  | 4 => .array (.int)
  | 5 => .array (.int)
  | 6 => .array (.int)
  | 7 => .array (.int)
  | 8 => .array (.int)
  | _ => .array (.int)
theorem n_Layout : ∀ a, a < 10 → ∀ b, b < 10 → a ≠ b → (F_Layout a).2.1 ≠ (F_Layout b).2.1 := by decide +kernel
theorem t_Layout_ok : ∀ k, k < 10 → parseFieldDescriptor (F_Layout k).2.2.1 = some (t_Layout k) := by decide +kernel
theorem i_Layout : ∀ w ∈ u_ws "CascadeBus$Layout" F_Layout 10, w ∈ gw := gms [222, 224, 226, 228, 230, 232, 234, 236, 238, 240] (by decide +kernel) (by decide +kernel)
def F_Links : u_T := fun k => match k with
  | 0 => ("CascadeBus$Links", "many", "I", false)
  | 1 => ("CascadeBus$Links", "from", "[I", true)
  | 2 => ("CascadeBus$Links", "to", "[I", true)
  | _ => ("CascadeBus$Links", "where", "[I", true)
def t_Links : Nat → FieldType := fun k => match k with
  | 0 => .int
  | 1 => .array (.int)
  | 2 => .array (.int)
  | _ => .array (.int)
theorem n_Links : ∀ a, a < 4 → ∀ b, b < 4 → a ≠ b → (F_Links a).2.1 ≠ (F_Links b).2.1 := by decide +kernel
theorem t_Links_ok : ∀ k, k < 4 → parseFieldDescriptor (F_Links k).2.2.1 = some (t_Links k) := by decide +kernel
theorem i_Links : ∀ w ∈ u_ws "CascadeBus$Links" F_Links 4, w ∈ gw := gms [163, 165, 167, 169] (by decide +kernel) (by decide +kernel)
def F_Memory : u_T := fun k => match k with
  | 0 => ("CascadeBus$Memory", "state", "LCascadeBus$State;", true)
  | 1 => ("CascadeBus$Memory", "history", "LCascadeBus$History;", true)
  | 2 => ("CascadeBus$Memory", "noted", "LCascadeBus$Noted;", true)
  | _ => ("CascadeBus$Memory", "status", "[I", true)
def t_Memory : Nat → FieldType := fun k => match k with
  | 0 => .object "CascadeBus$State"
  | 1 => .object "CascadeBus$History"
  | 2 => .object "CascadeBus$Noted"
  | _ => .array (.int)
theorem n_Memory : ∀ a, a < 4 → ∀ b, b < 4 → a ≠ b → (F_Memory a).2.1 ≠ (F_Memory b).2.1 := by decide +kernel
theorem t_Memory_ok : ∀ k, k < 4 → parseFieldDescriptor (F_Memory k).2.2.1 = some (t_Memory k) := by decide +kernel
theorem i_Memory : ∀ w ∈ u_ws "CascadeBus$Memory" F_Memory 4, w ∈ gw := gms [460, 462, 464, 466] (by decide +kernel) (by decide +kernel)
def F_Noted : u_T := fun k => match k with
  | 0 => ("CascadeBus$Noted", "many", "I", false)
  | 1 => ("CascadeBus$Noted", "blocks", "[I", true)
  | 2 => ("CascadeBus$Noted", "behind", "[I", true)
  | _ => ("CascadeBus$Noted", "modes", "[I", true)
def t_Noted : Nat → FieldType := fun k => match k with
  | 0 => .int
  | 1 => .array (.int)
  | 2 => .array (.int)
  | _ => .array (.int)
theorem n_Noted : ∀ a, a < 4 → ∀ b, b < 4 → a ≠ b → (F_Noted a).2.1 ≠ (F_Noted b).2.1 := by decide +kernel
theorem t_Noted_ok : ∀ k, k < 4 → parseFieldDescriptor (F_Noted k).2.2.1 = some (t_Noted k) := by decide +kernel
theorem i_Noted : ∀ w ∈ u_ws "CascadeBus$Noted" F_Noted 4, w ∈ gw := gms [443, 445, 447, 449] (by decide +kernel) (by decide +kernel)
def F_Plan : u_T := fun k => match k with
  | 0 => ("CascadeBus$Plan", "devices", "I", false)
  | 1 => ("CascadeBus$Plan", "old", "I", false)
  | 2 => ("CascadeBus$Plan", "over", "I", false)
  | 3 => ("CascadeBus$Plan", "blocks", "I", false)
  | 4 => ("CascadeBus$Plan", "kind", "[I", true)
  | 5 => ("CascadeBus$Plan", "device", "[I", true)
  | 6 => ("CascadeBus$Plan", "time", "[I", true)
  | 7 => ("CascadeBus$Plan", "port", "[I", true)
  | 8 => ("CascadeBus$Plan", "gain", "[I", true)
  | 9 => ("CascadeBus$Plan", "reset", "[I", true)
  | 10 => ("CascadeBus$Plan", "rate", "[I", true)
  | 11 => ("CascadeBus$Plan", "fallsTo", "[I", true)
  | 12 => ("CascadeBus$Plan", "stays", "[Z", true)
  | 13 => ("CascadeBus$Plan", "most", "[Z", true)
  | 14 => ("CascadeBus$Plan", "into", "[I", true)
  | 15 => ("CascadeBus$Plan", "setFrom", "[I", true)
  | 16 => ("CascadeBus$Plan", "links", "LCascadeBus$Links;", true)
  | 17 => ("CascadeBus$Plan", "plants", "LCascadeBus$Plants;", true)
  | _ => ("CascadeBus$Plan", "layout", "LCascadeBus$Layout;", true)
def t_Plan : Nat → FieldType := fun k => match k with
  | 0 => .int
  | 1 => .int
  | 2 => .int
  | 3 => .int
  | 4 => .array (.int)
  | 5 => .array (.int)
  | 6 => .array (.int)
  | 7 => .array (.int)
  | 8 => .array (.int)
  | 9 => .array (.int)
  | 10 => .array (.int)
  | 11 => .array (.int)
  | 12 => .array (.boolean)
  | 13 => .array (.boolean)
  | 14 => .array (.int)
  | 15 => .array (.int)
  | 16 => .object "CascadeBus$Links"
  | 17 => .object "CascadeBus$Plants"
  | _ => .object "CascadeBus$Layout"
theorem n_Plan : ∀ a, a < 19 → ∀ b, b < 19 → a ≠ b → (F_Plan a).2.1 ≠ (F_Plan b).2.1 := by decide +kernel
theorem t_Plan_ok : ∀ k, k < 19 → parseFieldDescriptor (F_Plan k).2.2.1 = some (t_Plan k) := by decide +kernel
theorem i_Plan : ∀ w ∈ u_ws "CascadeBus$Plan" F_Plan 19, w ∈ gw := gms [313, 315, 317, 319, 321, 323, 325, 327, 329, 331, 333, 335, 337, 339, 341, 343, 345, 347, 349] (by decide +kernel) (by decide +kernel)
def F_Plants : u_T := fun k => match k with
  | 0 => ("CascadeBus$Plants", "actuator", "[I", true)
  | 1 => ("CascadeBus$Plants", "gain", "[I", true)
  | _ => ("CascadeBus$Plants", "lag", "[I", true)
def t_Plants : Nat → FieldType := fun k => match k with
  | 0 => .array (.int)
  | 1 => .array (.int)
  | _ => .array (.int)
theorem n_Plants : ∀ a, a < 3 → ∀ b, b < 3 → a ≠ b → (F_Plants a).2.1 ≠ (F_Plants b).2.1 := by decide +kernel
theorem t_Plants_ok : ∀ k, k < 3 → parseFieldDescriptor (F_Plants k).2.2.1 = some (t_Plants k) := by decide +kernel
theorem i_Plants : ∀ w ∈ u_ws "CascadeBus$Plants" F_Plants 3, w ∈ gw := gms [191, 193, 195] (by decide +kernel) (by decide +kernel)
def F_Reader : u_T := fun k => match k with
  | 0 => ("CascadeBus$Reader", "place", "I", false)
  | 1 => ("CascadeBus$Reader", "found", "I", false)
  | 2 => ("CascadeBus$Reader", "bytes", "[B", false)
  | 3 => ("CascadeBus$Reader", "length", "I", false)
  | 4 => ("CascadeBus$Reader", "at", "I", false)
  | 5 => ("CascadeBus$Reader", "plan", "LCascadeBus$Plan;", false)
  | 6 => ("CascadeBus$Reader", "clauses", "I", false)
  | 7 => ("CascadeBus$Reader", "oldTold", "Z", false)
  | 8 => ("CascadeBus$Reader", "overTold", "Z", false)
  | 9 => ("CascadeBus$Reader", "token", "I", false)
  | _ => ("CascadeBus$Reader", "tokenAt", "I", false)
def t_Reader : Nat → FieldType := fun k => match k with
  | 0 => .int
  | 1 => .int
  | 2 => .array (.byte)
  | 3 => .int
  | 4 => .int
  | 5 => .object "CascadeBus$Plan"
  | 6 => .int
  | 7 => .boolean
  | 8 => .boolean
  | 9 => .int
  | _ => .int
theorem n_Reader : ∀ a, a < 11 → ∀ b, b < 11 → a ≠ b → (F_Reader a).2.1 ≠ (F_Reader b).2.1 := by decide +kernel
theorem t_Reader_ok : ∀ k, k < 11 → parseFieldDescriptor (F_Reader k).2.2.1 = some (t_Reader k) := by decide +kernel
theorem i_Reader : ∀ w ∈ u_ws "CascadeBus$Reader" F_Reader 11, w ∈ gw := gms [372, 374, 376, 378, 380, 382, 384, 386, 388, 390, 392] (by decide +kernel) (by decide +kernel)
def F_State : u_T := fun k => match k with
  | _ => ("CascadeBus$State", "cells", "[I", true)
def t_State : Nat → FieldType := fun k => match k with
  | _ => .array (.int)
theorem n_State : ∀ a, a < 1 → ∀ b, b < 1 → a ≠ b → (F_State a).2.1 ≠ (F_State b).2.1 := by decide +kernel
theorem t_State_ok : ∀ k, k < 1 → parseFieldDescriptor (F_State k).2.2.1 = some (t_State k) := by decide +kernel
theorem i_State : ∀ w ∈ u_ws "CascadeBus$State" F_State 1, w ∈ gw := gms [410] (by decide +kernel) (by decide +kernel)
def F_Years : u_T := fun k => match k with
  | 0 => ("CascadeBus$Years", "schedulers", "I", false)
  | _ => ("CascadeBus$Years", "seed", "I", false)
def t_Years : Nat → FieldType := fun k => match k with
  | 0 => .int
  | _ => .int
theorem n_Years : ∀ a, a < 2 → ∀ b, b < 2 → a ≠ b → (F_Years a).2.1 ≠ (F_Years b).2.1 := by decide +kernel
theorem t_Years_ok : ∀ k, k < 2 → parseFieldDescriptor (F_Years k).2.2.1 = some (t_Years k) := by decide +kernel
theorem i_Years : ∀ w ∈ u_ws "CascadeBus$Years" F_Years 2, w ∈ gw := gms [482, 484] (by decide +kernel) (by decide +kernel)
def F_Bus : u_T := fun k => match k with
  | 0 => ("CascadeBus", "tape", "[B", true)
  | 1 => ("CascadeBus", "taped", "I", false)
  | 2 => ("CascadeBus", "faultPlace", "I", false)
  | 3 => ("CascadeBus", "plan", "LCascadeBus$Plan;", false)
  | 4 => ("CascadeBus", "reader", "LCascadeBus$Reader;", true)
  | 5 => ("CascadeBus", "live", "LCascadeBus$Memory;", true)
  | 6 => ("CascadeBus", "kept", "LCascadeBus$Memory;", true)
  | 7 => ("CascadeBus", "imaged", "Z", false)
  | 8 => ("CascadeBus", "trial", "LCascadeBus$State;", true)
  | 9 => ("CascadeBus", "rival", "LCascadeBus$State;", true)
  | 10 => ("CascadeBus", "trialLayout", "LCascadeBus$Layout;", true)
  | 11 => ("CascadeBus", "drawn", "LCascadeBus$Years;", true)
  | _ => ("CascadeBus", "seenModes", "[I", true)
def t_Bus : Nat → FieldType := fun k => match k with
  | 0 => .array (.byte)
  | 1 => .int
  | 2 => .int
  | 3 => .object "CascadeBus$Plan"
  | 4 => .object "CascadeBus$Reader"
  | 5 => .object "CascadeBus$Memory"
  | 6 => .object "CascadeBus$Memory"
  | 7 => .boolean
  | 8 => .object "CascadeBus$State"
  | 9 => .object "CascadeBus$State"
  | 10 => .object "CascadeBus$Layout"
  | 11 => .object "CascadeBus$Years"
  | _ => .array (.int)
theorem n_Bus : ∀ a, a < 13 → ∀ b, b < 13 → a ≠ b → (F_Bus a).2.1 ≠ (F_Bus b).2.1 := by decide +kernel
theorem t_Bus_ok : ∀ k, k < 13 → parseFieldDescriptor (F_Bus k).2.2.1 = some (t_Bus k) := by decide +kernel
theorem i_Bus : ∀ w ∈ u_ws "CascadeBus" F_Bus 13, w ∈ gw := gms [504, 506, 508, 510, 512, 514, 516, 518, 520, 522, 524, 526, 528] (by decide +kernel) (by decide +kernel)
def F_Mod : u_T := fun k => match k with
  | 0 => ("CascadeBusModel", "rows", "[I", true)
  | 1 => ("CascadeBusModel", "device", "[I", true)
  | 2 => ("CascadeBusModel", "time", "[I", true)
  | 3 => ("CascadeBusModel", "kind", "[I", true)
  | 4 => ("CascadeBusModel", "one", "[I", true)
  | 5 => ("CascadeBusModel", "two", "[I", true)
  | 6 => ("CascadeBusModel", "falls", "[I", true)
  | 7 => ("CascadeBusModel", "stays", "[I", true)
  | 8 => ("CascadeBusModel", "from", "[I", true)
  | 9 => ("CascadeBusModel", "to", "[I", true)
  | 10 => ("CascadeBusModel", "where", "[I", true)
  | 11 => ("CascadeBusModel", "actuator", "[I", true)
  | 12 => ("CascadeBusModel", "gain", "[I", true)
  | 13 => ("CascadeBusModel", "lag", "[I", true)
  | 14 => ("CascadeBusModel", "noteBlock", "[I", true)
  | 15 => ("CascadeBusModel", "noteCycles", "[I", true)
  | 16 => ("CascadeBusModel", "noteMode", "[I", true)
  | 17 => ("CascadeBusModel", "refused", "[I", true)
  | 18 => ("CascadeBusModel", "thrown", "I", false)
  | 19 => ("CascadeBusModel", "devices", "I", false)
  | 20 => ("CascadeBusModel", "blocks", "I", false)
  | 21 => ("CascadeBusModel", "links", "I", false)
  | 22 => ("CascadeBusModel", "old", "I", false)
  | 23 => ("CascadeBusModel", "over", "I", false)
  | 24 => ("CascadeBusModel", "acts", "I", false)
  | 25 => ("CascadeBusModel", "firstAct", "I", false)
  | 26 => ("CascadeBusModel", "notes", "I", false)
  | 27 => ("CascadeBusModel", "imageActs", "I", false)
  | 28 => ("CascadeBusModel", "imageFirst", "I", false)
  | 29 => ("CascadeBusModel", "imageNotes", "I", false)
  | 30 => ("CascadeBusModel", "hasImage", "I", false)
  | 31 => ("CascadeBusModel", "tape", "[I", true)
  | 32 => ("CascadeBusModel", "taped", "I", false)
  | 33 => ("CascadeBusModel", "faultPlace", "I", false)
  | 34 => ("CascadeBusModel", "taken", "[I", true)
  | 35 => ("CascadeBusModel", "begun", "[I", true)
  | 36 => ("CascadeBusModel", "ended", "[I", true)
  | 37 => ("CascadeBusModel", "slot", "[I", true)
  | 38 => ("CascadeBusModel", "backSlot", "[I", true)
  | 39 => ("CascadeBusModel", "lastOf", "[I", true)
  | 40 => ("CascadeBusModel", "isTaken", "[Z", true)
  | 41 => ("CascadeBusModel", "isSlot", "[Z", true)
  | 42 => ("CascadeBusModel", "lengthNow", "I", false)
  | 43 => ("CascadeBusModel", "slots", "I", false)
  | 44 => ("CascadeBusModel", "tuned", "I", false)
  | 45 => ("CascadeBusModel", "tunedGain", "I", false)
  | 46 => ("CascadeBusModel", "next", "I", false)
  | 47 => ("CascadeBusModel", "place", "I", false)
  | 48 => ("CascadeBusModel", "size", "I", false)
  | 49 => ("CascadeBusModel", "sort", "I", false)
  | 50 => ("CascadeBusModel", "value", "I", false)
  | 51 => ("CascadeBusModel", "word", "I", false)
  | 52 => ("CascadeBusModel", "bad", "I", false)
  | 53 => ("CascadeBusModel", "device1", "[I", true)
  | 54 => ("CascadeBusModel", "time1", "[I", true)
  | 55 => ("CascadeBusModel", "kind1", "[I", true)
  | 56 => ("CascadeBusModel", "one1", "[I", true)
  | 57 => ("CascadeBusModel", "two1", "[I", true)
  | 58 => ("CascadeBusModel", "falls1", "[I", true)
  | 59 => ("CascadeBusModel", "stays1", "[I", true)
  | 60 => ("CascadeBusModel", "from1", "[I", true)
  | 61 => ("CascadeBusModel", "to1", "[I", true)
  | 62 => ("CascadeBusModel", "where1", "[I", true)
  | 63 => ("CascadeBusModel", "actuator1", "[I", true)
  | 64 => ("CascadeBusModel", "gain1", "[I", true)
  | 65 => ("CascadeBusModel", "lag1", "[I", true)
  | 66 => ("CascadeBusModel", "devices1", "I", false)
  | 67 => ("CascadeBusModel", "blocks1", "I", false)
  | 68 => ("CascadeBusModel", "links1", "I", false)
  | 69 => ("CascadeBusModel", "old1", "I", false)
  | 70 => ("CascadeBusModel", "over1", "I", false)
  | 71 => ("CascadeBusModel", "onces", "I", false)
  | 72 => ("CascadeBusModel", "clauses", "I", false)
  | 73 => ("CascadeBusModel", "modes", "[I", true)
  | 74 => ("CascadeBusModel", "seen", "[I", true)
  | _ => ("CascadeBusModel", "its", "I", false)
def t_Mod : Nat → FieldType := fun k => match k with
  | 0 => .array (.int)
  | 1 => .array (.int)
  | 2 => .array (.int)
  | 3 => .array (.int)
  | 4 => .array (.int)
  | 5 => .array (.int)
  | 6 => .array (.int)
  | 7 => .array (.int)
  | 8 => .array (.int)
  | 9 => .array (.int)
  | 10 => .array (.int)
  | 11 => .array (.int)
  | 12 => .array (.int)
  | 13 => .array (.int)
  | 14 => .array (.int)
  | 15 => .array (.int)
  | 16 => .array (.int)
  | 17 => .array (.int)
  | 18 => .int
  | 19 => .int
  | 20 => .int
  | 21 => .int
  | 22 => .int
  | 23 => .int
  | 24 => .int
  | 25 => .int
  | 26 => .int
  | 27 => .int
  | 28 => .int
  | 29 => .int
  | 30 => .int
  | 31 => .array (.int)
  | 32 => .int
  | 33 => .int
  | 34 => .array (.int)
  | 35 => .array (.int)
  | 36 => .array (.int)
  | 37 => .array (.int)
  | 38 => .array (.int)
  | 39 => .array (.int)
  | 40 => .array (.boolean)
  | 41 => .array (.boolean)
  | 42 => .int
  | 43 => .int
  | 44 => .int
  | 45 => .int
  | 46 => .int
  | 47 => .int
  | 48 => .int
  | 49 => .int
  | 50 => .int
  | 51 => .int
  | 52 => .int
  | 53 => .array (.int)
  | 54 => .array (.int)
  | 55 => .array (.int)
  | 56 => .array (.int)
  | 57 => .array (.int)
  | 58 => .array (.int)
  | 59 => .array (.int)
  | 60 => .array (.int)
  | 61 => .array (.int)
  | 62 => .array (.int)
  | 63 => .array (.int)
  | 64 => .array (.int)
  | 65 => .array (.int)
  | 66 => .int
  | 67 => .int
  | 68 => .int
  | 69 => .int
  | 70 => .int
  | 71 => .int
  | 72 => .int
  | 73 => .array (.int)
  | 74 => .array (.int)
  | _ => .int
theorem n_Mod : ∀ a, a < 76 → ∀ b, b < 76 → a ≠ b → (F_Mod a).2.1 ≠ (F_Mod b).2.1 := by decide +kernel
theorem t_Mod_ok : ∀ k, k < 76 → parseFieldDescriptor (F_Mod k).2.2.1 = some (t_Mod k) := by decide +kernel
theorem i_Mod : ∀ w ∈ u_ws "CascadeBusModel" F_Mod 76, w ∈ gw := gms [1325, 1327, 1329, 1331, 1333, 1335, 1337, 1339, 1341, 1343, 1345, 1347, 1349, 1351, 1353, 1355, 1357, 1359, 1361, 1363, 1365, 1367, 1369, 1371, 1373, 1375, 1377, 1379, 1381, 1383, 1385, 1387, 1389, 1391, 1393, 1395, 1397, 1399, 1401, 1403, 1405, 1407, 1409, 1411, 1413, 1415, 1417, 1419, 1421, 1423, 1425, 1427, 1429, 1431, 1433, 1435, 1437, 1439, 1441, 1443, 1445, 1447, 1449, 1451, 1453, 1455, 1457, 1459, 1461, 1463, 1465, 1467, 1469, 1471, 1473, 1475] (by decide +kernel) (by decide +kernel)
abbrev vcl : List vw_C := [("CascadeBus$History", F_History, 3), ("CascadeBus$Layout", F_Layout, 10), ("CascadeBus$Links", F_Links, 4), ("CascadeBus$Memory", F_Memory, 4), ("CascadeBus$Noted", F_Noted, 4), ("CascadeBus$Plan", F_Plan, 19), ("CascadeBus$Plants", F_Plants, 3), ("CascadeBus$Reader", F_Reader, 11), ("CascadeBus$State", F_State, 1), ("CascadeBus$Years", F_Years, 2), ("CascadeBus", F_Bus, 13), ("CascadeBusModel", F_Mod, 76)]
abbrev M_Bus_init : MI := (⟨"CascadeBus", "<init>", "()V"⟩, prog_1_method_1_code, 1, none, [])
set_option maxRecDepth 20000 in
theorem cw_Bus_init : Cond.code M_Bus_init.1 M_Bus_init.2.1 M_Bus_init.2.2.1 M_Bus_init.2.2.2.1 ∈ gw := gm1 (i := 30) rfl rfl
abbrev M_JObject_init : MI := (⟨"java/lang/Object", "<init>", "()V"⟩, object_method_1_code, 1, none, [])
set_option maxRecDepth 20000 in
theorem cw_JObject_init : Cond.code M_JObject_init.1 M_JObject_init.2.1 M_JObject_init.2.2.1 M_JObject_init.2.2.2.1 ∈ gw := gm1 (i := 33) rfl rfl
abbrev M_Plan_init : MI := (⟨"CascadeBus$Plan", "<init>", "()V"⟩, prog_8_method_1_code, 1, none, [])
set_option maxRecDepth 20000 in
theorem cw_Plan_init : Cond.code M_Plan_init.1 M_Plan_init.2.1 M_Plan_init.2.2.1 M_Plan_init.2.2.2.1 ∈ gw := gm1 (i := 38) rfl rfl
abbrev M_Links_init : MI := (⟨"CascadeBus$Links", "<init>", "()V"⟩, prog_5_method_1_code, 1, none, [])
set_option maxRecDepth 20000 in
theorem cw_Links_init : Cond.code M_Links_init.1 M_Links_init.2.1 M_Links_init.2.2.1 M_Links_init.2.2.2.1 ∈ gw := gm1 (i := 44) rfl rfl
abbrev M_Plants_init : MI := (⟨"CascadeBus$Plants", "<init>", "()V"⟩, prog_9_method_1_code, 1, none, [])
set_option maxRecDepth 20000 in
theorem cw_Plants_init : Cond.code M_Plants_init.1 M_Plants_init.2.1 M_Plants_init.2.2.1 M_Plants_init.2.2.2.1 ∈ gw := gm1 (i := 80) rfl rfl
abbrev M_Layout_init : MI := (⟨"CascadeBus$Layout", "<init>", "()V"⟩, prog_4_method_1_code, 1, none, [])
set_option maxRecDepth 20000 in
theorem cw_Layout_init : Cond.code M_Layout_init.1 M_Layout_init.2.1 M_Layout_init.2.2.1 M_Layout_init.2.2.2.1 ∈ gw := gm1 (i := 103) rfl rfl
abbrev M_Reader_init : MI := (⟨"CascadeBus$Reader", "<init>", "()V"⟩, prog_10_method_1_code, 1, none, [])
set_option maxRecDepth 20000 in
theorem cw_Reader_init : Cond.code M_Reader_init.1 M_Reader_init.2.1 M_Reader_init.2.2.1 M_Reader_init.2.2.2.1 ∈ gw := gm2 (i := 17) rfl rfl
abbrev M_Memory_init : MI := (⟨"CascadeBus$Memory", "<init>", "()V"⟩, prog_6_method_1_code, 1, none, [])
set_option maxRecDepth 20000 in
theorem cw_Memory_init : Cond.code M_Memory_init.1 M_Memory_init.2.1 M_Memory_init.2.2.1 M_Memory_init.2.2.2.1 ∈ gw := gm2 (i := 60) rfl rfl
abbrev M_State_init : MI := (⟨"CascadeBus$State", "<init>", "()V"⟩, prog_11_method_1_code, 1, none, [])
set_option maxRecDepth 20000 in
theorem cw_State_init : Cond.code M_State_init.1 M_State_init.2.1 M_State_init.2.2.1 M_State_init.2.2.2.1 ∈ gw := gm2 (i := 66) rfl rfl
abbrev M_History_init : MI := (⟨"CascadeBus$History", "<init>", "()V"⟩, prog_3_method_1_code, 1, none, [])
set_option maxRecDepth 20000 in
theorem cw_History_init : Cond.code M_History_init.1 M_History_init.2.1 M_History_init.2.2.1 M_History_init.2.2.2.1 ∈ gw := gm2 (i := 78) rfl rfl
abbrev M_Noted_init : MI := (⟨"CascadeBus$Noted", "<init>", "()V"⟩, prog_7_method_1_code, 1, none, [])
set_option maxRecDepth 20000 in
theorem cw_Noted_init : Cond.code M_Noted_init.1 M_Noted_init.2.1 M_Noted_init.2.2.1 M_Noted_init.2.2.2.1 ∈ gw := gm2 (i := 97) rfl rfl
abbrev M_Years_init : MI := (⟨"CascadeBus$Years", "<init>", "()V"⟩, prog_12_method_1_code, 1, none, [])
set_option maxRecDepth 20000 in
theorem cw_Years_init : Cond.code M_Years_init.1 M_Years_init.2.1 M_Years_init.2.2.1 M_Years_init.2.2.2.1 ∈ gw := gm2 (i := 138) rfl rfl
abbrev M_State_startAnew : MI := (⟨"CascadeBus$State", "startAnew", "(LCascadeBus$Plan;)V"⟩, prog_11_method_3_code, 4, none, [])
set_option maxRecDepth 20000 in
theorem cw_State_startAnew : Cond.code M_State_startAnew.1 M_State_startAnew.2.1 M_State_startAnew.2.2.1 M_State_startAnew.2.2.2.1 ∈ gw := gm2 (i := 151) rfl rfl
abbrev M_Bus_feed : MI := (⟨"CascadeBus", "feed", "(IIIII)I"⟩, prog_1_method_2_code, 6, (Option.some FieldType.int), [])
set_option maxRecDepth 20000 in
theorem cw_Bus_feed : Cond.code M_Bus_feed.1 M_Bus_feed.2.1 M_Bus_feed.2.2.1 M_Bus_feed.2.2.2.1 ∈ gw := gm2 (i := 195) rfl rfl
abbrev M_Bus_putBytes : MI := (⟨"CascadeBus", "putBytes", "(I)V"⟩, prog_1_method_3_code, 3, none, [])
set_option maxRecDepth 20000 in
theorem cw_Bus_putBytes : Cond.code M_Bus_putBytes.1 M_Bus_putBytes.2.1 M_Bus_putBytes.2.2.1 M_Bus_putBytes.2.2.2.1 ∈ gw := gm2 (i := 199) rfl rfl
abbrev M_Bus_fault : MI := (⟨"CascadeBus", "fault", "()I"⟩, prog_1_method_5_code, 1, (Option.some FieldType.int), [])
set_option maxRecDepth 20000 in
theorem cw_Bus_fault : Cond.code M_Bus_fault.1 M_Bus_fault.2.1 M_Bus_fault.2.2.1 M_Bus_fault.2.2.2.1 ∈ gw := gm2 (i := 203) rfl rfl
abbrev M_Bus_target : MI := (⟨"CascadeBus", "target", "(II)I"⟩, prog_1_method_10_code, 3, (Option.some FieldType.int), [])
set_option maxRecDepth 20000 in
theorem cw_Bus_target : Cond.code M_Bus_target.1 M_Bus_target.2.1 M_Bus_target.2.2.1 M_Bus_target.2.2.2.1 ∈ gw := gm2 (i := 207) rfl rfl
abbrev M_Bus_isBlock : MI := (⟨"CascadeBus", "isBlock", "(I)Z"⟩, prog_1_method_37_code, 2, (Option.some FieldType.boolean), [])
set_option maxRecDepth 20000 in
theorem cw_Bus_isBlock : Cond.code M_Bus_isBlock.1 M_Bus_isBlock.2.1 M_Bus_isBlock.2.2.1 M_Bus_isBlock.2.2.2.1 ∈ gw := gm2 (i := 211) rfl rfl
abbrev M_State_canTell : MI := (⟨"CascadeBus$State", "canTell", "(LCascadeBus$Plan;II)Z"⟩, prog_11_method_8_code, 6, (Option.some FieldType.boolean), [])
set_option maxRecDepth 20000 in
theorem cw_State_canTell : Cond.code M_State_canTell.1 M_State_canTell.2.1 M_State_canTell.2.2.1 M_State_canTell.2.2.2.1 ∈ gw := gm2 (i := 215) rfl rfl
abbrev M_Bus_refuseAct : MI := (⟨"CascadeBus", "refuseAct", "()I"⟩, prog_1_method_42_code, 1, (Option.some FieldType.int), [])
set_option maxRecDepth 20000 in
theorem cw_Bus_refuseAct : Cond.code M_Bus_refuseAct.1 M_Bus_refuseAct.2.1 M_Bus_refuseAct.2.2.1 M_Bus_refuseAct.2.2.2.1 ∈ gw := gm2 (i := 219) rfl rfl
abbrev M_Bus_putCell : MI := (⟨"CascadeBus", "putCell", "(II)I"⟩, prog_1_method_12_code, 4, (Option.some FieldType.int), [])
set_option maxRecDepth 20000 in
theorem cw_Bus_putCell : Cond.code M_Bus_putCell.1 M_Bus_putCell.2.1 M_Bus_putCell.2.2.1 M_Bus_putCell.2.2.2.1 ∈ gw := gm2 (i := 223) rfl rfl
abbrev M_Memory_keepAct : MI := (⟨"CascadeBus$Memory", "keepAct", "()V"⟩, prog_6_method_2_code, 1, none, [])
set_option maxRecDepth 20000 in
theorem cw_Memory_keepAct : Cond.code M_Memory_keepAct.1 M_Memory_keepAct.2.1 M_Memory_keepAct.2.2.1 M_Memory_keepAct.2.2.2.1 ∈ gw := gm2 (i := 227) rfl rfl
abbrev M_History_keep : MI := (⟨"CascadeBus$History", "keep", "(LCascadeBus$State;)V"⟩, prog_3_method_3_code, 2, none, [])
set_option maxRecDepth 20000 in
theorem cw_History_keep : Cond.code M_History_keep.1 M_History_keep.2.1 M_History_keep.2.2.1 M_History_keep.2.2.2.1 ∈ gw := gm2 (i := 231) rfl rfl
abbrev M_History_put : MI := (⟨"CascadeBus$History", "put", "(ILCascadeBus$State;)V"⟩, prog_3_method_6_code, 3, none, [])
set_option maxRecDepth 20000 in
theorem cw_History_put : Cond.code M_History_put.1 M_History_put.2.1 M_History_put.2.2.1 M_History_put.2.2.2.1 ∈ gw := gm2 (i := 235) rfl rfl
abbrev M_State_copyFrom : MI := (⟨"CascadeBus$State", "copyFrom", "(LCascadeBus$State;)V"⟩, prog_11_method_2_code, 2, none, [])
set_option maxRecDepth 20000 in
theorem cw_State_copyFrom : Cond.code M_State_copyFrom.1 M_State_copyFrom.2.1 M_State_copyFrom.2.2.1 M_State_copyFrom.2.2.2.1 ∈ gw := gm3 (i := 0) rfl rfl
abbrev M_Bus_hand : MI := (⟨"CascadeBus", "hand", "(II)I"⟩, prog_1_method_11_code, 4, (Option.some FieldType.int), [])
set_option maxRecDepth 20000 in
theorem cw_Bus_hand : Cond.code M_Bus_hand.1 M_Bus_hand.2.1 M_Bus_hand.2.2.1 M_Bus_hand.2.2.2.1 ∈ gw := gm3 (i := 7) rfl rfl
abbrev M_State_handCell : MI := (⟨"CascadeBus$State", "handCell", "(LCascadeBus$Plan;I)I"⟩, prog_11_method_9_code, 5, (Option.some FieldType.int), [])
set_option maxRecDepth 20000 in
theorem cw_State_handCell : Cond.code M_State_handCell.1 M_State_handCell.2.1 M_State_handCell.2.2.1 M_State_handCell.2.2.2.1 ∈ gw := gm3 (i := 11) rfl rfl
abbrev M_Bus_power : MI := (⟨"CascadeBus", "power", "(IZ)I"⟩, prog_1_method_13_code, 3, (Option.some FieldType.int), [])
set_option maxRecDepth 20000 in
theorem cw_Bus_power : Cond.code M_Bus_power.1 M_Bus_power.2.1 M_Bus_power.2.2.1 M_Bus_power.2.2.2.1 ∈ gw := gm3 (i := 15) rfl rfl
abbrev M_Bus_isDevice : MI := (⟨"CascadeBus", "isDevice", "(I)Z"⟩, prog_1_method_38_code, 2, (Option.some FieldType.boolean), [])
set_option maxRecDepth 20000 in
theorem cw_Bus_isDevice : Cond.code M_Bus_isDevice.1 M_Bus_isDevice.2.1 M_Bus_isDevice.2.2.1 M_Bus_isDevice.2.2.2.1 ∈ gw := gm3 (i := 19) rfl rfl
abbrev M_State_isOn : MI := (⟨"CascadeBus$State", "isOn", "(I)Z"⟩, prog_11_method_4_code, 2, (Option.some FieldType.boolean), [])
set_option maxRecDepth 20000 in
theorem cw_State_isOn : Cond.code M_State_isOn.1 M_State_isOn.2.1 M_State_isOn.2.2.1 M_State_isOn.2.2.2.1 ∈ gw := gm3 (i := 23) rfl rfl
abbrev M_Bus_hasBit : MI := (⟨"CascadeBus", "hasBit", "(II)Z"⟩, prog_1_method_41_code, 2, (Option.some FieldType.boolean), [])
set_option maxRecDepth 20000 in
theorem cw_Bus_hasBit : Cond.code M_Bus_hasBit.1 M_Bus_hasBit.2.1 M_Bus_hasBit.2.2.1 M_Bus_hasBit.2.2.2.1 ∈ gw := gm3 (i := 26) rfl rfl
abbrev M_State_switchDevice : MI := (⟨"CascadeBus$State", "switchDevice", "(IZI)V"⟩, prog_11_method_5_code, 4, none, [])
set_option maxRecDepth 20000 in
theorem cw_State_switchDevice : Cond.code M_State_switchDevice.1 M_State_switchDevice.2.1 M_State_switchDevice.2.2.1 M_State_switchDevice.2.2.2.1 ∈ gw := gm3 (i := 30) rfl rfl
abbrev M_Bus_broken : MI := (⟨"CascadeBus", "broken", "(IZ)I"⟩, prog_1_method_14_code, 3, (Option.some FieldType.int), [])
set_option maxRecDepth 20000 in
theorem cw_Bus_broken : Cond.code M_Bus_broken.1 M_Bus_broken.2.1 M_Bus_broken.2.2.1 M_Bus_broken.2.2.2.1 ∈ gw := gm3 (i := 34) rfl rfl
abbrev M_State_isBroken : MI := (⟨"CascadeBus$State", "isBroken", "(I)Z"⟩, prog_11_method_6_code, 2, (Option.some FieldType.boolean), [])
set_option maxRecDepth 20000 in
theorem cw_State_isBroken : Cond.code M_State_isBroken.1 M_State_isBroken.2.1 M_State_isBroken.2.2.1 M_State_isBroken.2.2.2.1 ∈ gw := gm3 (i := 38) rfl rfl
abbrev M_State_turnSensor : MI := (⟨"CascadeBus$State", "turnSensor", "(I)V"⟩, prog_11_method_7_code, 2, none, [])
set_option maxRecDepth 20000 in
theorem cw_State_turnSensor : Cond.code M_State_turnSensor.1 M_State_turnSensor.2.1 M_State_turnSensor.2.2.1 M_State_turnSensor.2.2.2.1 ∈ gw := gm3 (i := 42) rfl rfl
abbrev M_Bus_cycles : MI := (⟨"CascadeBus", "cycles", "(I)I"⟩, prog_1_method_15_code, 2, (Option.some FieldType.int), [])
set_option maxRecDepth 20000 in
theorem cw_Bus_cycles : Cond.code M_Bus_cycles.1 M_Bus_cycles.2.1 M_Bus_cycles.2.2.1 M_Bus_cycles.2.2.2.1 ∈ gw := gm3 (i := 46) rfl rfl
abbrev M_Bus_passCycles : MI := (⟨"CascadeBus", "passCycles", "(LCascadeBus$State;I)V"⟩, prog_1_method_43_code, 4, none, [])
set_option maxRecDepth 20000 in
theorem cw_Bus_passCycles : Cond.code M_Bus_passCycles.1 M_Bus_passCycles.2.1 M_Bus_passCycles.2.2.1 M_Bus_passCycles.2.2.2.1 ∈ gw := gm3 (i := 50) rfl rfl
abbrev M_Cycle_goBy : MI := (⟨"CascadeBus$Cycle", "goBy", "(LCascadeBus$Plan;[I)V"⟩, prog_2_method_2_code, 6, none, [])
set_option maxRecDepth 20000 in
theorem cw_Cycle_goBy : Cond.code M_Cycle_goBy.1 M_Cycle_goBy.2.1 M_Cycle_goBy.2.2.1 M_Cycle_goBy.2.2.2.1 ∈ gw := gm3 (i := 53) rfl rfl
abbrev M_Cycle_moveSensors : MI := (⟨"CascadeBus$Cycle", "moveSensors", "(LCascadeBus$Plan;[I)V"⟩, prog_2_method_3_code, 7, none, [])
set_option maxRecDepth 20000 in
theorem cw_Cycle_moveSensors : Cond.code M_Cycle_moveSensors.1 M_Cycle_moveSensors.2.1 M_Cycle_moveSensors.2.2.1 M_Cycle_moveSensors.2.2.2.1 ∈ gw := gm3 (i := 56) rfl rfl
abbrev M_Cycle_outOf : MI := (⟨"CascadeBus$Cycle", "outOf", "(LCascadeBus$Plan;[II)I"⟩, prog_2_method_4_code, 4, (Option.some FieldType.int), [])
set_option maxRecDepth 20000 in
theorem cw_Cycle_outOf : Cond.code M_Cycle_outOf.1 M_Cycle_outOf.2.1 M_Cycle_outOf.2.2.1 M_Cycle_outOf.2.2.2.1 ∈ gw := gm3 (i := 59) rfl rfl
abbrev M_Cycle_within : MI := (⟨"CascadeBus$Cycle", "within", "(I)I"⟩, prog_2_method_17_code, 1, (Option.some FieldType.int), [])
set_option maxRecDepth 20000 in
theorem cw_Cycle_within : Cond.code M_Cycle_within.1 M_Cycle_within.2.1 M_Cycle_within.2.2.1 M_Cycle_within.2.2.2.1 ∈ gw := gm3 (i := 62) rfl rfl
abbrev M_JMath_min : MI := (⟨"java/lang/Math", "min", "(II)I"⟩, prog_21_method_69_code, 2, (Option.some FieldType.int), [])
set_option maxRecDepth 20000 in
theorem cw_JMath_min : Cond.code M_JMath_min.1 M_JMath_min.2.1 M_JMath_min.2.2.1 M_JMath_min.2.2.2.1 ∈ gw := gm3 (i := 65) rfl rfl
abbrev M_JMath_max : MI := (⟨"java/lang/Math", "max", "(II)I"⟩, prog_21_method_65_code, 2, (Option.some FieldType.int), [])
set_option maxRecDepth 20000 in
theorem cw_JMath_max : Cond.code M_JMath_max.1 M_JMath_max.2.1 M_JMath_max.2.2.1 M_JMath_max.2.2.2.1 ∈ gw := gm3 (i := 68) rfl rfl
abbrev M_Cycle_seekScheduler : MI := (⟨"CascadeBus$Cycle", "seekScheduler", "(LCascadeBus$Plan;[I)V"⟩, prog_2_method_5_code, 3, none, [])
set_option maxRecDepth 20000 in
theorem cw_Cycle_seekScheduler : Cond.code M_Cycle_seekScheduler.1 M_Cycle_seekScheduler.2.1 M_Cycle_seekScheduler.2.2.1 M_Cycle_seekScheduler.2.2.2.1 ∈ gw := gm3 (i := 71) rfl rfl
abbrev M_Cycle_bringLink : MI := (⟨"CascadeBus$Cycle", "bringLink", "(LCascadeBus$Plan;[II)V"⟩, prog_2_method_6_code, 6, none, [])
set_option maxRecDepth 20000 in
theorem cw_Cycle_bringLink : Cond.code M_Cycle_bringLink.1 M_Cycle_bringLink.2.1 M_Cycle_bringLink.2.2.1 M_Cycle_bringLink.2.2.2.1 ∈ gw := gm3 (i := 75) rfl rfl
abbrev M_Cycle_carries : MI := (⟨"CascadeBus$Cycle", "carries", "([III)Z"⟩, prog_2_method_8_code, 3, (Option.some FieldType.boolean), [])
set_option maxRecDepth 20000 in
theorem cw_Cycle_carries : Cond.code M_Cycle_carries.1 M_Cycle_carries.2.1 M_Cycle_carries.2.2.1 M_Cycle_carries.2.2.2.1 ∈ gw := gm3 (i := 78) rfl rfl
abbrev M_Cycle_growOlder : MI := (⟨"CascadeBus$Cycle", "growOlder", "([II)V"⟩, prog_2_method_9_code, 2, none, [])
set_option maxRecDepth 20000 in
theorem cw_Cycle_growOlder : Cond.code M_Cycle_growOlder.1 M_Cycle_growOlder.2.1 M_Cycle_growOlder.2.2.1 M_Cycle_growOlder.2.2.2.1 ∈ gw := gm3 (i := 81) rfl rfl
abbrev M_Cycle_runBlock : MI := (⟨"CascadeBus$Cycle", "runBlock", "(LCascadeBus$Plan;[II)V"⟩, prog_2_method_10_code, 4, none, [])
set_option maxRecDepth 20000 in
theorem cw_Cycle_runBlock : Cond.code M_Cycle_runBlock.1 M_Cycle_runBlock.2.1 M_Cycle_runBlock.2.2.1 M_Cycle_runBlock.2.2.2.1 ∈ gw := gm3 (i := 84) rfl rfl
abbrev M_Cycle_actualOf : MI := (⟨"CascadeBus$Cycle", "actualOf", "(LCascadeBus$Plan;[II)I"⟩, prog_2_method_11_code, 7, (Option.some FieldType.int), [])
set_option maxRecDepth 20000 in
theorem cw_Cycle_actualOf : Cond.code M_Cycle_actualOf.1 M_Cycle_actualOf.2.1 M_Cycle_actualOf.2.2.1 M_Cycle_actualOf.2.2.2.1 ∈ gw := gm3 (i := 87) rfl rfl
abbrev M_Plan_cameAt : MI := (⟨"CascadeBus$Plan", "cameAt", "(II)I"⟩, prog_8_method_8_code, 4, (Option.some FieldType.int), [])
set_option maxRecDepth 20000 in
theorem cw_Plan_cameAt : Cond.code M_Plan_cameAt.1 M_Plan_cameAt.2.1 M_Plan_cameAt.2.2.1 M_Plan_cameAt.2.2.2.1 ∈ gw := gm3 (i := 91) rfl rfl
abbrev M_Cycle_fall : MI := (⟨"CascadeBus$Cycle", "fall", "(LCascadeBus$Plan;[III)I"⟩, prog_2_method_12_code, 4, (Option.some FieldType.int), [])
set_option maxRecDepth 20000 in
theorem cw_Cycle_fall : Cond.code M_Cycle_fall.1 M_Cycle_fall.2.1 M_Cycle_fall.2.2.1 M_Cycle_fall.2.2.2.1 ∈ gw := gm3 (i := 94) rfl rfl
abbrev M_Cycle_runInput : MI := (⟨"CascadeBus$Cycle", "runInput", "([III)V"⟩, prog_2_method_13_code, 3, none, [])
set_option maxRecDepth 20000 in
theorem cw_Cycle_runInput : Cond.code M_Cycle_runInput.1 M_Cycle_runInput.2.1 M_Cycle_runInput.2.2.1 M_Cycle_runInput.2.2.2.1 ∈ gw := gm3 (i := 97) rfl rfl
abbrev M_Cycle_runPid : MI := (⟨"CascadeBus$Cycle", "runPid", "(LCascadeBus$Plan;[II)V"⟩, prog_2_method_16_code, 13, none, [])
set_option maxRecDepth 20000 in
theorem cw_Cycle_runPid : Cond.code M_Cycle_runPid.1 M_Cycle_runPid.2.1 M_Cycle_runPid.2.2.1 M_Cycle_runPid.2.2.2.1 ∈ gw := gm3 (i := 100) rfl rfl
abbrev M_Cycle_runOutput : MI := (⟨"CascadeBus$Cycle", "runOutput", "([IIII)V"⟩, prog_2_method_15_code, 7, none, [])
set_option maxRecDepth 20000 in
theorem cw_Cycle_runOutput : Cond.code M_Cycle_runOutput.1 M_Cycle_runOutput.2.1 M_Cycle_runOutput.2.2.1 M_Cycle_runOutput.2.2.2.1 ∈ gw := gm3 (i := 103) rfl rfl
abbrev M_Cycle_runPick : MI := (⟨"CascadeBus$Cycle", "runPick", "(LCascadeBus$Plan;[II)V"⟩, prog_2_method_14_code, 8, none, [])
set_option maxRecDepth 20000 in
theorem cw_Cycle_runPick : Cond.code M_Cycle_runPick.1 M_Cycle_runPick.2.1 M_Cycle_runPick.2.2.1 M_Cycle_runPick.2.2.2.1 ∈ gw := gm3 (i := 106) rfl rfl
abbrev M_Cycle_bringBack : MI := (⟨"CascadeBus$Cycle", "bringBack", "(LCascadeBus$Plan;[II)V"⟩, prog_2_method_7_code, 6, none, [])
set_option maxRecDepth 20000 in
theorem cw_Cycle_bringBack : Cond.code M_Cycle_bringBack.1 M_Cycle_bringBack.2.1 M_Cycle_bringBack.2.2.1 M_Cycle_bringBack.2.2.2.1 ∈ gw := gm3 (i := 109) rfl rfl
abbrev M_Bus_undo : MI := (⟨"CascadeBus", "undo", "()I"⟩, prog_1_method_16_code, 1, (Option.some FieldType.int), [])
set_option maxRecDepth 20000 in
theorem cw_Bus_undo : Cond.code M_Bus_undo.1 M_Bus_undo.2.1 M_Bus_undo.2.2.1 M_Bus_undo.2.2.2.1 ∈ gw := gm3 (i := 113) rfl rfl
abbrev M_History_takeBack : MI := (⟨"CascadeBus$History", "takeBack", "(LCascadeBus$State;)I"⟩, prog_3_method_4_code, 3, (Option.some FieldType.int), [])
set_option maxRecDepth 20000 in
theorem cw_History_takeBack : Cond.code M_History_takeBack.1 M_History_takeBack.2.1 M_History_takeBack.2.2.1 M_History_takeBack.2.2.2.1 ∈ gw := gm3 (i := 117) rfl rfl
abbrev M_Bus_toRide : MI := (⟨"CascadeBus", "toRide", "()I"⟩, prog_1_method_23_code, 4, (Option.some FieldType.int), [])
set_option maxRecDepth 20000 in
theorem cw_Bus_toRide : Cond.code M_Bus_toRide.1 M_Bus_toRide.2.1 M_Bus_toRide.2.2.1 M_Bus_toRide.2.2.2.1 ∈ gw := gm3 (i := 121) rfl rfl
abbrev M_Bus_unlikeWithout : MI := (⟨"CascadeBus", "unlikeWithout", "(III)I"⟩, prog_1_method_22_code, 8, (Option.some FieldType.int), [])
set_option maxRecDepth 20000 in
theorem cw_Bus_unlikeWithout : Cond.code M_Bus_unlikeWithout.1 M_Bus_unlikeWithout.2.1 M_Bus_unlikeWithout.2.2.1 M_Bus_unlikeWithout.2.2.2.1 ∈ gw := gm3 (i := 125) rfl rfl
abbrev M_Bus_note : MI := (⟨"CascadeBus", "note", "(III)I"⟩, prog_1_method_27_code, 5, (Option.some FieldType.int), [])
set_option maxRecDepth 20000 in
theorem cw_Bus_note : Cond.code M_Bus_note.1 M_Bus_note.2.1 M_Bus_note.2.2.1 M_Bus_note.2.2.2.1 ∈ gw := gm3 (i := 130) rfl rfl
abbrev M_Noted_add : MI := (⟨"CascadeBus$Noted", "add", "(III)V"⟩, prog_7_method_3_code, 4, none, [])
set_option maxRecDepth 20000 in
theorem cw_Noted_add : Cond.code M_Noted_add.1 M_Noted_add.2.1 M_Noted_add.2.2.1 M_Noted_add.2.2.2.1 ∈ gw := gm3 (i := 134) rfl rfl
abbrev M_Bus_fits : MI := (⟨"CascadeBus", "fits", "()I"⟩, prog_1_method_28_code, 3, (Option.some FieldType.int), [])
set_option maxRecDepth 20000 in
theorem cw_Bus_fits : Cond.code M_Bus_fits.1 M_Bus_fits.2.1 M_Bus_fits.2.2.1 M_Bus_fits.2.2.2.1 ∈ gw := gm3 (i := 138) rfl rfl
abbrev M_Bus_startTrialBy : MI := (⟨"CascadeBus", "startTrialBy", "(I)Z"⟩, prog_1_method_29_code, 3, (Option.some FieldType.boolean), [])
set_option maxRecDepth 20000 in
theorem cw_Bus_startTrialBy : Cond.code M_Bus_startTrialBy.1 M_Bus_startTrialBy.2.1 M_Bus_startTrialBy.2.2.1 M_Bus_startTrialBy.2.2.2.1 ∈ gw := gm3 (i := 142) rfl rfl
abbrev M_Plan_hasInputOf : MI := (⟨"CascadeBus$Plan", "hasInputOf", "(I)Z"⟩, prog_8_method_7_code, 3, (Option.some FieldType.boolean), [])
set_option maxRecDepth 20000 in
theorem cw_Plan_hasInputOf : Cond.code M_Plan_hasInputOf.1 M_Plan_hasInputOf.2.1 M_Plan_hasInputOf.2.2.1 M_Plan_hasInputOf.2.2.2.1 ∈ gw := gm3 (i := 146) rfl rfl
abbrev M_Bus_trialIsAsNoted : MI := (⟨"CascadeBus", "trialIsAsNoted", "()Z"⟩, prog_1_method_30_code, 3, (Option.some FieldType.boolean), [])
set_option maxRecDepth 20000 in
theorem cw_Bus_trialIsAsNoted : Cond.code M_Bus_trialIsAsNoted.1 M_Bus_trialIsAsNoted.2.1 M_Bus_trialIsAsNoted.2.2.1 M_Bus_trialIsAsNoted.2.2.2.1 ∈ gw := gm3 (i := 150) rfl rfl
abbrev M_Noted_furthest : MI := (⟨"CascadeBus$Noted", "furthest", "()I"⟩, prog_7_method_5_code, 3, (Option.some FieldType.int), [])
set_option maxRecDepth 20000 in
theorem cw_Noted_furthest : Cond.code M_Noted_furthest.1 M_Noted_furthest.2.1 M_Noted_furthest.2.2.1 M_Noted_furthest.2.2.2.1 ∈ gw := gm3 (i := 154) rfl rfl
abbrev M_Noted_isSo : MI := (⟨"CascadeBus$Noted", "isSo", "([II)Z"⟩, prog_7_method_6_code, 4, (Option.some FieldType.boolean), [])
set_option maxRecDepth 20000 in
theorem cw_Noted_isSo : Cond.code M_Noted_isSo.1 M_Noted_isSo.2.1 M_Noted_isSo.2.2.1 M_Noted_isSo.2.2.2.1 ∈ gw := gm3 (i := 159) rfl rfl
abbrev M_Bus_forget : MI := (⟨"CascadeBus", "forget", "()V"⟩, prog_1_method_33_code, 1, none, [])
set_option maxRecDepth 20000 in
theorem cw_Bus_forget : Cond.code M_Bus_forget.1 M_Bus_forget.2.1 M_Bus_forget.2.2.1 M_Bus_forget.2.2.2.1 ∈ gw := gm3 (i := 163) rfl rfl
abbrev M_Noted_clear : MI := (⟨"CascadeBus$Noted", "clear", "()V"⟩, prog_7_method_2_code, 1, none, [])
set_option maxRecDepth 20000 in
theorem cw_Noted_clear : Cond.code M_Noted_clear.1 M_Noted_clear.2.1 M_Noted_clear.2.2.1 M_Noted_clear.2.2.2.1 ∈ gw := gm3 (i := 167) rfl rfl
abbrev M_Bus_image : MI := (⟨"CascadeBus", "image", "()V"⟩, prog_1_method_35_code, 1, none, [])
set_option maxRecDepth 20000 in
theorem cw_Bus_image : Cond.code M_Bus_image.1 M_Bus_image.2.1 M_Bus_image.2.2.1 M_Bus_image.2.2.2.1 ∈ gw := gm3 (i := 171) rfl rfl
abbrev M_Memory_copyFrom : MI := (⟨"CascadeBus$Memory", "copyFrom", "(LCascadeBus$Memory;)V"⟩, prog_6_method_3_code, 3, none, [])
set_option maxRecDepth 20000 in
theorem cw_Memory_copyFrom : Cond.code M_Memory_copyFrom.1 M_Memory_copyFrom.2.1 M_Memory_copyFrom.2.2.1 M_Memory_copyFrom.2.2.2.1 ∈ gw := gm3 (i := 175) rfl rfl
abbrev M_History_copyFrom : MI := (⟨"CascadeBus$History", "copyFrom", "(LCascadeBus$History;)V"⟩, prog_3_method_5_code, 4, none, [])
set_option maxRecDepth 20000 in
theorem cw_History_copyFrom : Cond.code M_History_copyFrom.1 M_History_copyFrom.2.1 M_History_copyFrom.2.2.1 M_History_copyFrom.2.2.2.1 ∈ gw := gm3 (i := 180) rfl rfl
abbrev M_Noted_copyFrom : MI := (⟨"CascadeBus$Noted", "copyFrom", "(LCascadeBus$Noted;)V"⟩, prog_7_method_4_code, 3, none, [])
set_option maxRecDepth 20000 in
theorem cw_Noted_copyFrom : Cond.code M_Noted_copyFrom.1 M_Noted_copyFrom.2.1 M_Noted_copyFrom.2.2.1 M_Noted_copyFrom.2.2.2.1 ∈ gw := gm3 (i := 184) rfl rfl
abbrev M_Bus_restore : MI := (⟨"CascadeBus", "restore", "()Z"⟩, prog_1_method_36_code, 1, (Option.some FieldType.boolean), [])
set_option maxRecDepth 20000 in
theorem cw_Bus_restore : Cond.code M_Bus_restore.1 M_Bus_restore.2.1 M_Bus_restore.2.2.1 M_Bus_restore.2.2.2.1 ∈ gw := gm3 (i := 188) rfl rfl
abbrev M_Bus_bus : MI := (⟨"CascadeBus", "bus", "(I)I"⟩, prog_1_method_4_code, 3, (Option.some FieldType.int), [])
set_option maxRecDepth 20000 in
theorem cw_Bus_bus : Cond.code M_Bus_bus.1 M_Bus_bus.2.1 M_Bus_bus.2.2.1 M_Bus_bus.2.2.2.1 ∈ gw := gm3 (i := 196) rfl rfl
abbrev M_JThrowable_init : MI := (⟨"java/lang/Throwable", "<init>", "()V"⟩, prog_27_method_1_code, 1, none, [])
set_option maxRecDepth 20000 in
theorem cw_JThrowable_init : Cond.code M_JThrowable_init.1 M_JThrowable_init.2.1 M_JThrowable_init.2.2.1 M_JThrowable_init.2.2.2.1 ∈ gw := gm3 (i := 221) rfl rfl
abbrev M_JIae_init : MI := (⟨"java/lang/IllegalArgumentException", "<init>", "()V"⟩, prog_19_method_1_code, 1, none, [])
set_option maxRecDepth 20000 in
theorem cw_JIae_init : Cond.code M_JIae_init.1 M_JIae_init.2.1 M_JIae_init.2.2.1 M_JIae_init.2.2.2.1 ∈ gw := gm3 (i := 239) rfl rfl
abbrev M_JRuntime_init : MI := (⟨"java/lang/RuntimeException", "<init>", "()V"⟩, prog_22_method_1_code, 1, none, [])
set_option maxRecDepth 20000 in
theorem cw_JRuntime_init : Cond.code M_JRuntime_init.1 M_JRuntime_init.2.1 M_JRuntime_init.2.2.1 M_JRuntime_init.2.2.2.1 ∈ gw := gm4 (i := 2) rfl rfl
abbrev M_JException_init : MI := (⟨"java/lang/Exception", "<init>", "()V"⟩, prog_18_method_1_code, 1, none, [])
set_option maxRecDepth 20000 in
theorem cw_JException_init : Cond.code M_JException_init.1 M_JException_init.2.1 M_JException_init.2.2.1 M_JException_init.2.2.2.1 ∈ gw := gm4 (i := 5) rfl rfl
abbrev M_Reader_readText : MI := (⟨"CascadeBus$Reader", "readText", "([BI)I"⟩, prog_10_method_2_code, 4, (Option.some FieldType.int), [])
set_option maxRecDepth 20000 in
theorem cw_Reader_readText : Cond.code M_Reader_readText.1 M_Reader_readText.2.1 M_Reader_readText.2.2.1 M_Reader_readText.2.2.2.1 ∈ gw := gm4 (i := 22) rfl rfl
abbrev M_Plan_clear : MI := (⟨"CascadeBus$Plan", "clear", "()V"⟩, prog_8_method_2_code, 1, none, [])
set_option maxRecDepth 20000 in
theorem cw_Plan_clear : Cond.code M_Plan_clear.1 M_Plan_clear.2.1 M_Plan_clear.2.2.1 M_Plan_clear.2.2.2.1 ∈ gw := gm4 (i := 27) rfl rfl
abbrev M_Plants_clear : MI := (⟨"CascadeBus$Plants", "clear", "()V"⟩, prog_9_method_2_code, 2, none, [])
set_option maxRecDepth 20000 in
theorem cw_Plants_clear : Cond.code M_Plants_clear.1 M_Plants_clear.2.1 M_Plants_clear.2.2.1 M_Plants_clear.2.2.2.1 ∈ gw := gm4 (i := 31) rfl rfl
abbrev M_Reader_nextToken : MI := (⟨"CascadeBus$Reader", "nextToken", "()V"⟩, prog_10_method_17_code, 2, none, [])
set_option maxRecDepth 20000 in
theorem cw_Reader_nextToken : Cond.code M_Reader_nextToken.1 M_Reader_nextToken.2.1 M_Reader_nextToken.2.2.1 M_Reader_nextToken.2.2.2.1 ∈ gw := gm4 (i := 35) rfl rfl
abbrev M_Reader_takeRow : MI := (⟨"CascadeBus$Reader", "takeRow", "(II)V"⟩, prog_10_method_18_code, 3, none, [])
set_option maxRecDepth 20000 in
theorem cw_Reader_takeRow : Cond.code M_Reader_takeRow.1 M_Reader_takeRow.2.1 M_Reader_takeRow.2.2.1 M_Reader_takeRow.2.2.2.1 ∈ gw := gm4 (i := 39) rfl rfl
abbrev M_Reader_readClause : MI := (⟨"CascadeBus$Reader", "readClause", "()V"⟩, prog_10_method_4_code, 1, none, [])
set_option maxRecDepth 20000 in
theorem cw_Reader_readClause : Cond.code M_Reader_readClause.1 M_Reader_readClause.2.1 M_Reader_readClause.2.2.1 M_Reader_readClause.2.2.2.1 ∈ gw := gm4 (i := 43) rfl rfl
abbrev M_Reader_isWord : MI := (⟨"CascadeBus$Reader", "isWord", "(Ljava/lang/String;)Z"⟩, prog_10_method_19_code, 3, (Option.some FieldType.boolean), [])
set_option maxRecDepth 20000 in
theorem cw_Reader_isWord : Cond.code M_Reader_isWord.1 M_Reader_isWord.2.1 M_Reader_isWord.2.2.1 M_Reader_isWord.2.2.2.1 ∈ gw := gm4 (i := 48) rfl rfl
abbrev M_JString_length : MI := (⟨"java/lang/String", "length", "()I"⟩, prog_23_method_54_code, 1, (Option.some FieldType.int), [])
set_option maxRecDepth 20000 in
theorem cw_JString_length : Cond.code M_JString_length.1 M_JString_length.2.1 M_JString_length.2.2.1 M_JString_length.2.2.2.1 ∈ gw := gm4 (i := 52) rfl rfl
abbrev M_JString_coder : MI := (⟨"java/lang/String", "coder", "()B"⟩, prog_23_method_152_code, 1, (Option.some FieldType.byte), [])
set_option maxRecDepth 20000 in
theorem cw_JString_coder : Cond.code M_JString_coder.1 M_JString_coder.2.1 M_JString_coder.2.2.1 M_JString_coder.2.2.2.1 ∈ gw := gm4 (i := 56) rfl rfl
abbrev M_JString_charAt : MI := (⟨"java/lang/String", "charAt", "(I)C"⟩, prog_23_method_56_code, 2, (Option.some FieldType.char), [])
set_option maxRecDepth 20000 in
theorem cw_JString_charAt : Cond.code M_JString_charAt.1 M_JString_charAt.2.1 M_JString_charAt.2.2.1 M_JString_charAt.2.2.2.1 ∈ gw := gm4 (i := 62) rfl rfl
abbrev M_JString_isLatin1 : MI := (⟨"java/lang/String", "isLatin1", "()Z"⟩, prog_23_method_154_code, 1, (Option.some FieldType.boolean), [])
set_option maxRecDepth 20000 in
theorem cw_JString_isLatin1 : Cond.code M_JString_isLatin1.1 M_JString_isLatin1.2.1 M_JString_isLatin1.2.2.1 M_JString_isLatin1.2.2.2.1 ∈ gw := gm4 (i := 66) rfl rfl
abbrev M_JLatin_charAt : MI := (⟨"java/lang/StringLatin1", "charAt", "([BI)C"⟩, prog_24_method_2_code, 2, (Option.some FieldType.char), [])
set_option maxRecDepth 20000 in
theorem cw_JLatin_charAt : Cond.code M_JLatin_charAt.1 M_JLatin_charAt.2.1 M_JLatin_charAt.2.2.1 M_JLatin_charAt.2.2.2.1 ∈ gw := gm4 (i := 69) rfl rfl
abbrev M_JString_checkIndex : MI := (⟨"java/lang/String", "checkIndex", "(II)V"⟩, prog_23_method_155_code, 2, none, [])
set_option maxRecDepth 20000 in
theorem cw_JString_checkIndex : Cond.code M_JString_checkIndex.1 M_JString_checkIndex.2.1 M_JString_checkIndex.2.2.1 M_JString_checkIndex.2.2.2.1 ∈ gw := gm4 (i := 72) rfl rfl
abbrev M_JPre_checkIndex : MI := (⟨"jdk/internal/util/Preconditions", "checkIndex", "(IILjava/util/function/BiFunction;)I"⟩, prog_31_method_11_code, 3, (Option.some FieldType.int), [])
set_option maxRecDepth 20000 in
theorem cw_JPre_checkIndex : Cond.code M_JPre_checkIndex.1 M_JPre_checkIndex.2.1 M_JPre_checkIndex.2.2.1 M_JPre_checkIndex.2.2.2.1 ∈ gw := gm4 (i := 77) rfl rfl
abbrev M_JUtf_charAt : MI := (⟨"java/lang/StringUTF16", "charAt", "([BI)C"⟩, prog_25_method_83_code, 2, (Option.some FieldType.char), [])
set_option maxRecDepth 20000 in
theorem cw_JUtf_charAt : Cond.code M_JUtf_charAt.1 M_JUtf_charAt.2.1 M_JUtf_charAt.2.2.1 M_JUtf_charAt.2.2.2.1 ∈ gw := gm4 (i := 80) rfl rfl
abbrev M_JUtf_checkIndex : MI := (⟨"java/lang/StringUTF16", "checkIndex", "(I[B)V"⟩, prog_25_method_91_code, 2, none, [])
set_option maxRecDepth 20000 in
theorem cw_JUtf_checkIndex : Cond.code M_JUtf_checkIndex.1 M_JUtf_checkIndex.2.1 M_JUtf_checkIndex.2.2.1 M_JUtf_checkIndex.2.2.2.1 ∈ gw := gm4 (i := 83) rfl rfl
abbrev M_JUtf_length : MI := (⟨"java/lang/StringUTF16", "length", "([B)I"⟩, prog_25_method_6_code, 1, (Option.some FieldType.int), [])
set_option maxRecDepth 20000 in
theorem cw_JUtf_length : Cond.code M_JUtf_length.1 M_JUtf_length.2.1 M_JUtf_length.2.2.1 M_JUtf_length.2.2.2.1 ∈ gw := gm4 (i := 86) rfl rfl
abbrev M_JUtf_getChar : MI := (⟨"java/lang/StringUTF16", "getChar", "([BI)C"⟩, prog_25_method_5_code, 2, (Option.some FieldType.char), [])
set_option maxRecDepth 20000 in
theorem cw_JUtf_getChar : Cond.code M_JUtf_getChar.1 M_JUtf_getChar.2.1 M_JUtf_getChar.2.2.1 M_JUtf_getChar.2.2.2.1 ∈ gw := gm4 (i := 90) rfl rfl
abbrev M_Reader_readDevices : MI := (⟨"CascadeBus$Reader", "readDevices", "()V"⟩, prog_10_method_5_code, 1, none, [])
set_option maxRecDepth 20000 in
theorem cw_Reader_readDevices : Cond.code M_Reader_readDevices.1 M_Reader_readDevices.2.1 M_Reader_readDevices.2.2.1 M_Reader_readDevices.2.2.2.1 ∈ gw := gm4 (i := 100) rfl rfl
abbrev M_Reader_fail : MI := (⟨"CascadeBus$Reader", "fail", "(I)V"⟩, prog_10_method_16_code, 2, none, [])
set_option maxRecDepth 20000 in
theorem cw_Reader_fail : Cond.code M_Reader_fail.1 M_Reader_fail.2.1 M_Reader_fail.2.2.1 M_Reader_fail.2.2.2.1 ∈ gw := gm4 (i := 104) rfl rfl
abbrev M_Reader_readNumber : MI := (⟨"CascadeBus$Reader", "readNumber", "(II)I"⟩, prog_10_method_13_code, 4, (Option.some FieldType.int), [])
set_option maxRecDepth 20000 in
theorem cw_Reader_readNumber : Cond.code M_Reader_readNumber.1 M_Reader_readNumber.2.1 M_Reader_readNumber.2.2.1 M_Reader_readNumber.2.2.2.1 ∈ gw := gm4 (i := 108) rfl rfl
abbrev M_Reader_numberOfToken : MI := (⟨"CascadeBus$Reader", "numberOfToken", "()I"⟩, prog_10_method_14_code, 3, (Option.some FieldType.int), [])
set_option maxRecDepth 20000 in
theorem cw_Reader_numberOfToken : Cond.code M_Reader_numberOfToken.1 M_Reader_numberOfToken.2.1 M_Reader_numberOfToken.2.2.1 M_Reader_numberOfToken.2.2.2.1 ∈ gw := gm4 (i := 112) rfl rfl
abbrev M_Reader_readBlock : MI := (⟨"CascadeBus$Reader", "readBlock", "()V"⟩, prog_10_method_9_code, 4, none, [])
set_option maxRecDepth 20000 in
theorem cw_Reader_readBlock : Cond.code M_Reader_readBlock.1 M_Reader_readBlock.2.1 M_Reader_readBlock.2.2.1 M_Reader_readBlock.2.2.2.1 ∈ gw := gm4 (i := 117) rfl rfl
abbrev M_Plan_addBlock : MI := (⟨"CascadeBus$Plan", "addBlock", "(II)I"⟩, prog_8_method_3_code, 5, (Option.some FieldType.int), [])
set_option maxRecDepth 20000 in
theorem cw_Plan_addBlock : Cond.code M_Plan_addBlock.1 M_Plan_addBlock.2.1 M_Plan_addBlock.2.2.1 M_Plan_addBlock.2.2.2.1 ∈ gw := gm4 (i := 121) rfl rfl
abbrev M_Reader_readPid : MI := (⟨"CascadeBus$Reader", "readPid", "(I)V"⟩, prog_10_method_10_code, 2, none, [])
set_option maxRecDepth 20000 in
theorem cw_Reader_readPid : Cond.code M_Reader_readPid.1 M_Reader_readPid.2.1 M_Reader_readPid.2.2.1 M_Reader_readPid.2.2.2.1 ∈ gw := gm4 (i := 127) rfl rfl
abbrev M_Reader_readChoice : MI := (⟨"CascadeBus$Reader", "readChoice", "(Ljava/lang/String;Ljava/lang/String;)Z"⟩, prog_10_method_15_code, 4, (Option.some FieldType.boolean), [])
set_option maxRecDepth 20000 in
theorem cw_Reader_readChoice : Cond.code M_Reader_readChoice.1 M_Reader_readChoice.2.1 M_Reader_readChoice.2.2.1 M_Reader_readChoice.2.2.2.1 ∈ gw := gm4 (i := 133) rfl rfl
abbrev M_Reader_readLink : MI := (⟨"CascadeBus$Reader", "readLink", "()V"⟩, prog_10_method_11_code, 4, none, [])
set_option maxRecDepth 20000 in
theorem cw_Reader_readLink : Cond.code M_Reader_readLink.1 M_Reader_readLink.2.1 M_Reader_readLink.2.2.1 M_Reader_readLink.2.2.2.1 ∈ gw := gm4 (i := 144) rfl rfl
abbrev M_Reader_readBlockNumber : MI := (⟨"CascadeBus$Reader", "readBlockNumber", "()I"⟩, prog_10_method_12_code, 2, (Option.some FieldType.int), [])
set_option maxRecDepth 20000 in
theorem cw_Reader_readBlockNumber : Cond.code M_Reader_readBlockNumber.1 M_Reader_readBlockNumber.2.1 M_Reader_readBlockNumber.2.2.1 M_Reader_readBlockNumber.2.2.2.1 ∈ gw := gm4 (i := 148) rfl rfl
abbrev M_Plan_suits : MI := (⟨"CascadeBus$Plan", "suits", "(III)Z"⟩, prog_8_method_5_code, 4, (Option.some FieldType.boolean), [])
set_option maxRecDepth 20000 in
theorem cw_Plan_suits : Cond.code M_Plan_suits.1 M_Plan_suits.2.1 M_Plan_suits.2.2.1 M_Plan_suits.2.2.2.1 ∈ gw := gm4 (i := 155) rfl rfl
abbrev M_Plan_hasLinked : MI := (⟨"CascadeBus$Plan", "hasLinked", "(III)Z"⟩, prog_8_method_6_code, 4, (Option.some FieldType.boolean), [])
set_option maxRecDepth 20000 in
theorem cw_Plan_hasLinked : Cond.code M_Plan_hasLinked.1 M_Plan_hasLinked.2.1 M_Plan_hasLinked.2.2.1 M_Plan_hasLinked.2.2.2.1 ∈ gw := gm4 (i := 159) rfl rfl
abbrev M_Links_leads : MI := (⟨"CascadeBus$Links", "leads", "(II)Z"⟩, prog_5_method_3_code, 6, (Option.some FieldType.boolean), [])
set_option maxRecDepth 20000 in
theorem cw_Links_leads : Cond.code M_Links_leads.1 M_Links_leads.2.1 M_Links_leads.2.2.1 M_Links_leads.2.2.2.1 ∈ gw := gm4 (i := 163) rfl rfl
abbrev M_Plan_addLink : MI := (⟨"CascadeBus$Plan", "addLink", "(III)V"⟩, prog_8_method_4_code, 4, none, [])
set_option maxRecDepth 20000 in
theorem cw_Plan_addLink : Cond.code M_Plan_addLink.1 M_Plan_addLink.2.1 M_Plan_addLink.2.2.1 M_Plan_addLink.2.2.2.1 ∈ gw := gm4 (i := 168) rfl rfl
abbrev M_Links_add : MI := (⟨"CascadeBus$Links", "add", "(III)V"⟩, prog_5_method_2_code, 4, none, [])
set_option maxRecDepth 20000 in
theorem cw_Links_add : Cond.code M_Links_add.1 M_Links_add.2.1 M_Links_add.2.2.1 M_Links_add.2.2.2.1 ∈ gw := gm4 (i := 172) rfl rfl
abbrev M_Reader_readPlant : MI := (⟨"CascadeBus$Reader", "readPlant", "()V"⟩, prog_10_method_8_code, 5, none, [])
set_option maxRecDepth 20000 in
theorem cw_Reader_readPlant : Cond.code M_Reader_readPlant.1 M_Reader_readPlant.2.1 M_Reader_readPlant.2.2.1 M_Reader_readPlant.2.2.2.1 ∈ gw := gm4 (i := 177) rfl rfl
abbrev M_Reader_readOld : MI := (⟨"CascadeBus$Reader", "readOld", "()V"⟩, prog_10_method_6_code, 1, none, [])
set_option maxRecDepth 20000 in
theorem cw_Reader_readOld : Cond.code M_Reader_readOld.1 M_Reader_readOld.2.1 M_Reader_readOld.2.2.1 M_Reader_readOld.2.2.2.1 ∈ gw := gm4 (i := 182) rfl rfl
abbrev M_Reader_readOver : MI := (⟨"CascadeBus$Reader", "readOver", "()V"⟩, prog_10_method_7_code, 1, none, [])
set_option maxRecDepth 20000 in
theorem cw_Reader_readOver : Cond.code M_Reader_readOver.1 M_Reader_readOver.2.1 M_Reader_readOver.2.2.1 M_Reader_readOver.2.2.2.1 ∈ gw := gm4 (i := 187) rfl rfl
abbrev M_Reader_changePlan : MI := (⟨"CascadeBus$Reader", "changePlan", "(LCascadeBus$Plan;)LCascadeBus$Plan;"⟩, prog_10_method_3_code, 3, (Option.some (FieldType.object "CascadeBus$Plan")), [])
set_option maxRecDepth 20000 in
theorem cw_Reader_changePlan : Cond.code M_Reader_changePlan.1 M_Reader_changePlan.2.1 M_Reader_changePlan.2.2.1 M_Reader_changePlan.2.2.2.1 ∈ gw := gm4 (i := 191) rfl rfl
abbrev M_Layout_lay : MI := (⟨"CascadeBus$Layout", "lay", "(LCascadeBus$Plan;II)V"⟩, prog_4_method_2_code, 6, none, [])
set_option maxRecDepth 20000 in
theorem cw_Layout_lay : Cond.code M_Layout_lay.1 M_Layout_lay.2.1 M_Layout_lay.2.2.1 M_Layout_lay.2.2.2.1 ∈ gw := gm4 (i := 195) rfl rfl
abbrev M_Layout_startEmpty : MI := (⟨"CascadeBus$Layout", "startEmpty", "()V"⟩, prog_4_method_3_code, 2, none, [])
set_option maxRecDepth 20000 in
theorem cw_Layout_startEmpty : Cond.code M_Layout_startEmpty.1 M_Layout_startEmpty.2.1 M_Layout_startEmpty.2.2.1 M_Layout_startEmpty.2.2.2.1 ∈ gw := gm4 (i := 199) rfl rfl
abbrev M_Layout_leastReady : MI := (⟨"CascadeBus$Layout", "leastReady", "(LCascadeBus$Plan;)I"⟩, prog_4_method_4_code, 3, (Option.some FieldType.int), [])
set_option maxRecDepth 20000 in
theorem cw_Layout_leastReady : Cond.code M_Layout_leastReady.1 M_Layout_leastReady.2.1 M_Layout_leastReady.2.2.1 M_Layout_leastReady.2.2.2.1 ∈ gw := gm4 (i := 203) rfl rfl
abbrev M_Layout_isReady : MI := (⟨"CascadeBus$Layout", "isReady", "(LCascadeBus$Plan;I)Z"⟩, prog_4_method_5_code, 4, (Option.some FieldType.boolean), [])
set_option maxRecDepth 20000 in
theorem cw_Layout_isReady : Cond.code M_Layout_isReady.1 M_Layout_isReady.2.1 M_Layout_isReady.2.2.1 M_Layout_isReady.2.2.2.1 ∈ gw := gm4 (i := 207) rfl rfl
abbrev M_Layout_takeBlock : MI := (⟨"CascadeBus$Layout", "takeBlock", "(LCascadeBus$Plan;II)V"⟩, prog_4_method_6_code, 7, none, [])
set_option maxRecDepth 20000 in
theorem cw_Layout_takeBlock : Cond.code M_Layout_takeBlock.1 M_Layout_takeBlock.2.1 M_Layout_takeBlock.2.2.1 M_Layout_takeBlock.2.2.2.1 ∈ gw := gm4 (i := 211) rfl rfl
abbrev M_Layout_isAcross : MI := (⟨"CascadeBus$Layout", "isAcross", "(LCascadeBus$Plan;I)Z"⟩, prog_4_method_7_code, 2, (Option.some FieldType.boolean), [])
set_option maxRecDepth 20000 in
theorem cw_Layout_isAcross : Cond.code M_Layout_isAcross.1 M_Layout_isAcross.2.1 M_Layout_isAcross.2.2.1 M_Layout_isAcross.2.2.2.1 ∈ gw := gm4 (i := 214) rfl rfl
abbrev M_Layout_claimSlot : MI := (⟨"CascadeBus$Layout", "claimSlot", "(I)I"⟩, prog_4_method_8_code, 4, (Option.some FieldType.int), [])
set_option maxRecDepth 20000 in
theorem cw_Layout_claimSlot : Cond.code M_Layout_claimSlot.1 M_Layout_claimSlot.2.1 M_Layout_claimSlot.2.2.1 M_Layout_claimSlot.2.2.2.1 ∈ gw := gm4 (i := 218) rfl rfl
abbrev M_Layout_isClaimed : MI := (⟨"CascadeBus$Layout", "isClaimed", "(I)Z"⟩, prog_4_method_9_code, 3, (Option.some FieldType.boolean), [])
set_option maxRecDepth 20000 in
theorem cw_Layout_isClaimed : Cond.code M_Layout_isClaimed.1 M_Layout_isClaimed.2.1 M_Layout_isClaimed.2.2.1 M_Layout_isClaimed.2.2.2.1 ∈ gw := gm4 (i := 222) rfl rfl
abbrev M_History_clear : MI := (⟨"CascadeBus$History", "clear", "()V"⟩, prog_3_method_2_code, 1, none, [])
set_option maxRecDepth 20000 in
theorem cw_History_clear : Cond.code M_History_clear.1 M_History_clear.2.1 M_History_clear.2.2.1 M_History_clear.2.2.2.1 ∈ gw := gm4 (i := 227) rfl rfl
abbrev M_Bus_count : MI := (⟨"CascadeBus", "count", "(I)I"⟩, prog_1_method_6_code, 3, (Option.some FieldType.int), [])
set_option maxRecDepth 20000 in
theorem cw_Bus_count : Cond.code M_Bus_count.1 M_Bus_count.2.1 M_Bus_count.2.2.1 M_Bus_count.2.2.2.1 ∈ gw := gm4 (i := 235) rfl rfl
abbrev M_JNse_init : MI := (⟨"java/util/NoSuchElementException", "<init>", "()V"⟩, prog_30_method_1_code, 1, none, [])
set_option maxRecDepth 20000 in
theorem cw_JNse_init : Cond.code M_JNse_init.1 M_JNse_init.2.1 M_JNse_init.2.2.1 M_JNse_init.2.2.2.1 ∈ gw := gm5 (i := 7) rfl rfl
abbrev M_Bus_block : MI := (⟨"CascadeBus", "block", "(II)I"⟩, prog_1_method_7_code, 5, (Option.some FieldType.int), [])
set_option maxRecDepth 20000 in
theorem cw_Bus_block : Cond.code M_Bus_block.1 M_Bus_block.2.1 M_Bus_block.2.2.1 M_Bus_block.2.2.2.1 ∈ gw := gm5 (i := 17) rfl rfl
abbrev M_Bus_needBlock : MI := (⟨"CascadeBus", "needBlock", "(I)V"⟩, prog_1_method_39_code, 2, none, [])
set_option maxRecDepth 20000 in
theorem cw_Bus_needBlock : Cond.code M_Bus_needBlock.1 M_Bus_needBlock.2.1 M_Bus_needBlock.2.2.1 M_Bus_needBlock.2.2.2.1 ∈ gw := gm5 (i := 21) rfl rfl
abbrev M_Bus_link : MI := (⟨"CascadeBus", "link", "(II)I"⟩, prog_1_method_8_code, 3, (Option.some FieldType.int), [])
set_option maxRecDepth 20000 in
theorem cw_Bus_link : Cond.code M_Bus_link.1 M_Bus_link.2.1 M_Bus_link.2.2.1 M_Bus_link.2.2.2.1 ∈ gw := gm5 (i := 28) rfl rfl
abbrev M_Bus_plant : MI := (⟨"CascadeBus", "plant", "(II)I"⟩, prog_1_method_9_code, 3, (Option.some FieldType.int), [])
set_option maxRecDepth 20000 in
theorem cw_Bus_plant : Cond.code M_Bus_plant.1 M_Bus_plant.2.1 M_Bus_plant.2.2.1 M_Bus_plant.2.2.2.1 ∈ gw := gm5 (i := 35) rfl rfl
abbrev M_Bus_then : MI := (⟨"CascadeBus", "then", "(III)I"⟩, prog_1_method_17_code, 5, (Option.some FieldType.int), [])
set_option maxRecDepth 20000 in
theorem cw_Bus_then : Cond.code M_Bus_then.1 M_Bus_then.2.1 M_Bus_then.2.2.1 M_Bus_then.2.2.2.1 ∈ gw := gm5 (i := 43) rfl rfl
abbrev M_Bus_thenCell : MI := (⟨"CascadeBus", "thenCell", "(I)I"⟩, prog_1_method_18_code, 1, (Option.some FieldType.int), [])
set_option maxRecDepth 20000 in
theorem cw_Bus_thenCell : Cond.code M_Bus_thenCell.1 M_Bus_thenCell.2.1 M_Bus_thenCell.2.2.1 M_Bus_thenCell.2.2.2.1 ∈ gw := gm5 (i := 46) rfl rfl
abbrev M_Bus_needWithin : MI := (⟨"CascadeBus", "needWithin", "(III)V"⟩, prog_1_method_40_code, 3, none, [])
set_option maxRecDepth 20000 in
theorem cw_Bus_needWithin : Cond.code M_Bus_needWithin.1 M_Bus_needWithin.2.1 M_Bus_needWithin.2.2.1 M_Bus_needWithin.2.2.2.1 ∈ gw := gm5 (i := 49) rfl rfl
abbrev M_Bus_first : MI := (⟨"CascadeBus", "first", "(I)I"⟩, prog_1_method_19_code, 4, (Option.some FieldType.int), [])
set_option maxRecDepth 20000 in
theorem cw_Bus_first : Cond.code M_Bus_first.1 M_Bus_first.2.1 M_Bus_first.2.2.1 M_Bus_first.2.2.2.1 ∈ gw := gm5 (i := 56) rfl rfl
abbrev M_Bus_jump : MI := (⟨"CascadeBus", "jump", "(II)I"⟩, prog_1_method_20_code, 7, (Option.some FieldType.int), [])
set_option maxRecDepth 20000 in
theorem cw_Bus_jump : Cond.code M_Bus_jump.1 M_Bus_jump.2.1 M_Bus_jump.2.2.1 M_Bus_jump.2.2.2.1 ∈ gw := gm5 (i := 63) rfl rfl
abbrev M_JMath_abs : MI := (⟨"java/lang/Math", "abs", "(I)I"⟩, prog_21_method_59_code, 1, (Option.some FieldType.int), [])
set_option maxRecDepth 20000 in
theorem cw_JMath_abs : Cond.code M_JMath_abs.1 M_JMath_abs.2.1 M_JMath_abs.2.2.1 M_JMath_abs.2.2.2.1 ∈ gw := gm5 (i := 66) rfl rfl
abbrev M_Bus_lost : MI := (⟨"CascadeBus", "lost", "(II)I"⟩, prog_1_method_21_code, 3, (Option.some FieldType.int), [])
set_option maxRecDepth 20000 in
theorem cw_Bus_lost : Cond.code M_Bus_lost.1 M_Bus_lost.2.1 M_Bus_lost.2.2.1 M_Bus_lost.2.2.2.1 ∈ gw := gm5 (i := 74) rfl rfl
abbrev M_Bus_toTune : MI := (⟨"CascadeBus", "toTune", "(III)I"⟩, prog_1_method_24_code, 5, (Option.some FieldType.int), [])
set_option maxRecDepth 20000 in
theorem cw_Bus_toTune : Cond.code M_Bus_toTune.1 M_Bus_toTune.2.1 M_Bus_toTune.2.2.1 M_Bus_toTune.2.2.2.1 ∈ gw := gm5 (i := 81) rfl rfl
abbrev M_Bus_staysBelow : MI := (⟨"CascadeBus", "staysBelow", "(IIII)Z"⟩, prog_1_method_25_code, 8, (Option.some FieldType.boolean), [])
set_option maxRecDepth 20000 in
theorem cw_Bus_staysBelow : Cond.code M_Bus_staysBelow.1 M_Bus_staysBelow.2.1 M_Bus_staysBelow.2.2.1 M_Bus_staysBelow.2.2.2.1 ∈ gw := gm5 (i := 85) rfl rfl
abbrev M_Bus_slack : MI := (⟨"CascadeBus", "slack", "(I)I"⟩, prog_1_method_26_code, 3, (Option.some FieldType.int), [])
set_option maxRecDepth 20000 in
theorem cw_Bus_slack : Cond.code M_Bus_slack.1 M_Bus_slack.2.1 M_Bus_slack.2.2.1 M_Bus_slack.2.2.2.1 ∈ gw := gm5 (i := 93) rfl rfl
abbrev M_Bus_look : MI := (⟨"CascadeBus", "look", "(I)I"⟩, prog_1_method_31_code, 6, (Option.some FieldType.int), [])
set_option maxRecDepth 20000 in
theorem cw_Bus_look : Cond.code M_Bus_look.1 M_Bus_look.2.1 M_Bus_look.2.2.1 M_Bus_look.2.2.2.1 ∈ gw := gm5 (i := 100) rfl rfl
abbrev M_Bus_gatherModes : MI := (⟨"CascadeBus", "gatherModes", "(I)V"⟩, prog_1_method_32_code, 4, none, [])
set_option maxRecDepth 20000 in
theorem cw_Bus_gatherModes : Cond.code M_Bus_gatherModes.1 M_Bus_gatherModes.2.1 M_Bus_gatherModes.2.2.1 M_Bus_gatherModes.2.2.2.1 ∈ gw := gm5 (i := 105) rfl rfl
abbrev M_JInteger_bitCount : MI := (⟨"java/lang/Integer", "bitCount", "(I)I"⟩, prog_20_method_49_code, 1, (Option.some FieldType.int), [])
set_option maxRecDepth 20000 in
theorem cw_JInteger_bitCount : Cond.code M_JInteger_bitCount.1 M_JInteger_bitCount.2.1 M_JInteger_bitCount.2.2.1 M_JInteger_bitCount.2.2.2.1 ∈ gw := gm5 (i := 109) rfl rfl
abbrev M_Bus_years : MI := (⟨"CascadeBus", "years", "(III)I"⟩, prog_1_method_34_code, 4, (Option.some FieldType.int), [])
set_option maxRecDepth 20000 in
theorem cw_Bus_years : Cond.code M_Bus_years.1 M_Bus_years.2.1 M_Bus_years.2.2.1 M_Bus_years.2.2.2.1 ∈ gw := gm5 (i := 119) rfl rfl
abbrev M_Years_play : MI := (⟨"CascadeBus$Years", "play", "(LCascadeBus$Plan;LCascadeBus$State;II)V"⟩, prog_12_method_2_code, 8, none, [])
set_option maxRecDepth 20000 in
theorem cw_Years_play : Cond.code M_Years_play.1 M_Years_play.2.1 M_Years_play.2.2.1 M_Years_play.2.2.2.1 ∈ gw := gm5 (i := 123) rfl rfl
abbrev M_Years_draw : MI := (⟨"CascadeBus$Years", "draw", "(I)I"⟩, prog_12_method_4_code, 2, (Option.some FieldType.int), [])
set_option maxRecDepth 20000 in
theorem cw_Years_draw : Cond.code M_Years_draw.1 M_Years_draw.2.1 M_Years_draw.2.2.1 M_Years_draw.2.2.2.1 ∈ gw := gm5 (i := 127) rfl rfl
abbrev M_Years_passSome : MI := (⟨"CascadeBus$Years", "passSome", "(LCascadeBus$Plan;LCascadeBus$State;I)V"⟩, prog_12_method_5_code, 6, none, [])
set_option maxRecDepth 20000 in
theorem cw_Years_passSome : Cond.code M_Years_passSome.1 M_Years_passSome.2.1 M_Years_passSome.2.2.1 M_Years_passSome.2.2.2.1 ∈ gw := gm5 (i := 132) rfl rfl
abbrev M_Years_tellBlock : MI := (⟨"CascadeBus$Years", "tellBlock", "(LCascadeBus$Plan;LCascadeBus$State;Z)V"⟩, prog_12_method_3_code, 7, none, [])
set_option maxRecDepth 20000 in
theorem cw_Years_tellBlock : Cond.code M_Years_tellBlock.1 M_Years_tellBlock.2.1 M_Years_tellBlock.2.2.1 M_Years_tellBlock.2.2.2.1 ∈ gw := gm5 (i := 140) rfl rfl
abbrev M_State_sumOfOuts : MI := (⟨"CascadeBus$State", "sumOfOuts", "(I)I"⟩, prog_11_method_10_code, 4, (Option.some FieldType.int), [])
set_option maxRecDepth 20000 in
theorem cw_State_sumOfOuts : Cond.code M_State_sumOfOuts.1 M_State_sumOfOuts.2.1 M_State_sumOfOuts.2.2.1 M_State_sumOfOuts.2.2.2.1 ∈ gw := gm5 (i := 146) rfl rfl
abbrev M_Mod_init : MI := (⟨"CascadeBusModel", "<init>", "()V"⟩, prog_14_method_1_code, 2, none, [])
set_option maxRecDepth 20000 in
theorem cw_Mod_init : Cond.code M_Mod_init.1 M_Mod_init.2.1 M_Mod_init.2.2.1 M_Mod_init.2.2.2.1 ∈ gw := gm5 (i := 151) rfl rfl
abbrev M_Mod_laysCycle : MI := (⟨"CascadeBusModel", "laysCycle", "()V"⟩, prog_14_method_13_code, 3, none, [])
set_option maxRecDepth 20000 in
theorem cw_Mod_laysCycle : Cond.code M_Mod_laysCycle.1 M_Mod_laysCycle.2.1 M_Mod_laysCycle.2.2.1 M_Mod_laysCycle.2.2.2.1 ∈ gw := gm5 (i := 156) rfl rfl
abbrev M_Mod_canBeTaken : MI := (⟨"CascadeBusModel", "canBeTaken", "(I)Z"⟩, prog_14_method_10_code, 3, (Option.some FieldType.boolean), [])
set_option maxRecDepth 20000 in
theorem cw_Mod_canBeTaken : Cond.code M_Mod_canBeTaken.1 M_Mod_canBeTaken.2.1 M_Mod_canBeTaken.2.2.1 M_Mod_canBeTaken.2.2.2.1 ∈ gw := gm5 (i := 160) rfl rfl
abbrev M_Mod_takes : MI := (⟨"CascadeBusModel", "takes", "(I)V"⟩, prog_14_method_12_code, 4, none, [])
set_option maxRecDepth 20000 in
theorem cw_Mod_takes : Cond.code M_Mod_takes.1 M_Mod_takes.2.1 M_Mod_takes.2.2.1 M_Mod_takes.2.2.2.1 ∈ gw := gm5 (i := 164) rfl rfl
abbrev M_Mod_isWithin : MI := (⟨"CascadeBusModel", "isWithin", "(I)Z"⟩, prog_14_method_9_code, 2, (Option.some FieldType.boolean), [])
set_option maxRecDepth 20000 in
theorem cw_Mod_isWithin : Cond.code M_Mod_isWithin.1 M_Mod_isWithin.2.1 M_Mod_isWithin.2.2.1 M_Mod_isWithin.2.2.2.1 ∈ gw := gm5 (i := 168) rfl rfl
abbrev M_Mod_slotFrom : MI := (⟨"CascadeBusModel", "slotFrom", "(I)I"⟩, prog_14_method_11_code, 3, (Option.some FieldType.int), [])
set_option maxRecDepth 20000 in
theorem cw_Mod_slotFrom : Cond.code M_Mod_slotFrom.1 M_Mod_slotFrom.2.1 M_Mod_slotFrom.2.2.1 M_Mod_slotFrom.2.2.2.1 ∈ gw := gm5 (i := 172) rfl rfl
abbrev M_Mod_greater : MI := (⟨"CascadeBusModel", "greater", "(II)I"⟩, prog_14_method_6_code, 2, (Option.some FieldType.int), [])
set_option maxRecDepth 20000 in
theorem cw_Mod_greater : Cond.code M_Mod_greater.1 M_Mod_greater.2.1 M_Mod_greater.2.2.1 M_Mod_greater.2.2.2.1 ∈ gw := gm5 (i := 175) rfl rfl
abbrev M_Mod_begins : MI := (⟨"CascadeBusModel", "begins", "()V"⟩, prog_14_method_18_code, 2, none, [])
set_option maxRecDepth 20000 in
theorem cw_Mod_begins : Cond.code M_Mod_begins.1 M_Mod_begins.2.1 M_Mod_begins.2.2.1 M_Mod_begins.2.2.2.1 ∈ gw := gm5 (i := 179) rfl rfl
abbrev M_Mod_at : MI := (⟨"CascadeBusModel", "at", "(II)I"⟩, prog_14_method_14_code, 2, (Option.some FieldType.int), [])
set_option maxRecDepth 20000 in
theorem cw_Mod_at : Cond.code M_Mod_at.1 M_Mod_at.2.1 M_Mod_at.2.2.1 M_Mod_at.2.2.2.1 ∈ gw := gm5 (i := 182) rfl rfl
abbrev M_Mod_linkTo : MI := (⟨"CascadeBusModel", "linkTo", "(II)I"⟩, prog_14_method_16_code, 4, (Option.some FieldType.int), [])
set_option maxRecDepth 20000 in
theorem cw_Mod_linkTo : Cond.code M_Mod_linkTo.1 M_Mod_linkTo.2.1 M_Mod_linkTo.2.2.1 M_Mod_linkTo.2.2.2.1 ∈ gw := gm5 (i := 186) rfl rfl
abbrev M_Mod_linkAt : MI := (⟨"CascadeBusModel", "linkAt", "(II)I"⟩, prog_14_method_15_code, 2, (Option.some FieldType.int), [])
set_option maxRecDepth 20000 in
theorem cw_Mod_linkAt : Cond.code M_Mod_linkAt.1 M_Mod_linkAt.2.1 M_Mod_linkAt.2.2.1 M_Mod_linkAt.2.2.2.1 ∈ gw := gm5 (i := 189) rfl rfl
abbrev M_Mod_thrown : MI := (⟨"CascadeBusModel", "thrown", "()I"⟩, prog_14_method_2_code, 1, (Option.some FieldType.int), [])
set_option maxRecDepth 20000 in
theorem cw_Mod_thrown : Cond.code M_Mod_thrown.1 M_Mod_thrown.2.1 M_Mod_thrown.2.2.1 M_Mod_thrown.2.2.2.1 ∈ gw := gm6 (i := 182) rfl rfl
abbrev M_Mod_feed : MI := (⟨"CascadeBusModel", "feed", "(IIIII)I"⟩, prog_14_method_55_code, 8, (Option.some FieldType.int), [])
set_option maxRecDepth 20000 in
theorem cw_Mod_feed : Cond.code M_Mod_feed.1 M_Mod_feed.2.1 M_Mod_feed.2.2.1 M_Mod_feed.2.2.2.1 ∈ gw := gm6 (i := 186) rfl rfl
abbrev M_Mod_bus : MI := (⟨"CascadeBusModel", "bus", "(I)I"⟩, prog_14_method_56_code, 3, (Option.some FieldType.int), [])
set_option maxRecDepth 20000 in
theorem cw_Mod_bus : Cond.code M_Mod_bus.1 M_Mod_bus.2.1 M_Mod_bus.2.2.1 M_Mod_bus.2.2.2.1 ∈ gw := gm6 (i := 190) rfl rfl
abbrev M_Mod_right : MI := (⟨"CascadeBusModel", "right", "(ZI)Z"⟩, prog_14_method_3_code, 3, (Option.some FieldType.boolean), [])
set_option maxRecDepth 20000 in
theorem cw_Mod_right : Cond.code M_Mod_right.1 M_Mod_right.2.1 M_Mod_right.2.2.1 M_Mod_right.2.2.2.1 ∈ gw := gm6 (i := 194) rfl rfl
abbrev M_Mod_go : MI := (⟨"CascadeBusModel", "go", "()V"⟩, prog_14_method_42_code, 2, none, [])
set_option maxRecDepth 20000 in
theorem cw_Mod_go : Cond.code M_Mod_go.1 M_Mod_go.2.1 M_Mod_go.2.2.1 M_Mod_go.2.2.2.1 ∈ gw := gm6 (i := 198) rfl rfl
abbrev M_Mod_byteAt : MI := (⟨"CascadeBusModel", "byteAt", "(I)I"⟩, prog_14_method_40_code, 2, (Option.some FieldType.int), [])
set_option maxRecDepth 20000 in
theorem cw_Mod_byteAt : Cond.code M_Mod_byteAt.1 M_Mod_byteAt.2.1 M_Mod_byteAt.2.2.1 M_Mod_byteAt.2.2.2.1 ∈ gw := gm6 (i := 202) rfl rfl
abbrev M_Mod_isLetter : MI := (⟨"CascadeBusModel", "isLetter", "(I)Z"⟩, prog_14_method_39_code, 1, (Option.some FieldType.boolean), [])
set_option maxRecDepth 20000 in
theorem cw_Mod_isLetter : Cond.code M_Mod_isLetter.1 M_Mod_isLetter.2.1 M_Mod_isLetter.2.2.1 M_Mod_isLetter.2.2.2.1 ∈ gw := gm6 (i := 205) rfl rfl
abbrev M_Mod_wordFrom : MI := (⟨"CascadeBusModel", "wordFrom", "(II)I"⟩, prog_14_method_41_code, 7, (Option.some FieldType.int), [])
set_option maxRecDepth 20000 in
theorem cw_Mod_wordFrom : Cond.code M_Mod_wordFrom.1 M_Mod_wordFrom.2.1 M_Mod_wordFrom.2.2.1 M_Mod_wordFrom.2.2.2.1 ∈ gw := gm6 (i := 209) rfl rfl
abbrev M_Mod_clause1 : MI := (⟨"CascadeBusModel", "clause1", "()V"⟩, prog_14_method_54_code, 2, none, [])
set_option maxRecDepth 20000 in
theorem cw_Mod_clause1 : Cond.code M_Mod_clause1.1 M_Mod_clause1.2.1 M_Mod_clause1.2.2.1 M_Mod_clause1.2.2.2.1 ∈ gw := gm6 (i := 216) rfl rfl
abbrev M_Mod_block1 : MI := (⟨"CascadeBusModel", "block1", "()V"⟩, prog_14_method_47_code, 2, none, [])
set_option maxRecDepth 20000 in
theorem cw_Mod_block1 : Cond.code M_Mod_block1.1 M_Mod_block1.2.1 M_Mod_block1.2.2.1 M_Mod_block1.2.2.2.1 ∈ gw := gm6 (i := 220) rfl rfl
abbrev M_Mod_wants : MI := (⟨"CascadeBusModel", "wants", "(ZI)Z"⟩, prog_14_method_43_code, 3, (Option.some FieldType.boolean), [])
set_option maxRecDepth 20000 in
theorem cw_Mod_wants : Cond.code M_Mod_wants.1 M_Mod_wants.2.1 M_Mod_wants.2.2.1 M_Mod_wants.2.2.2.1 ∈ gw := gm6 (i := 224) rfl rfl
abbrev M_Mod_named : MI := (⟨"CascadeBusModel", "named", "(II)I"⟩, prog_14_method_45_code, 4, (Option.some FieldType.int), [])
set_option maxRecDepth 20000 in
theorem cw_Mod_named : Cond.code M_Mod_named.1 M_Mod_named.2.1 M_Mod_named.2.2.1 M_Mod_named.2.2.2.1 ∈ gw := gm6 (i := 228) rfl rfl
abbrev M_Mod_number : MI := (⟨"CascadeBusModel", "number", "(II)I"⟩, prog_14_method_44_code, 4, (Option.some FieldType.int), [])
set_option maxRecDepth 20000 in
theorem cw_Mod_number : Cond.code M_Mod_number.1 M_Mod_number.2.1 M_Mod_number.2.2.1 M_Mod_number.2.2.2.1 ∈ gw := gm6 (i := 232) rfl rfl
abbrev M_Mod_within : MI := (⟨"CascadeBusModel", "within", "(III)Z"⟩, prog_14_method_4_code, 3, (Option.some FieldType.boolean), [])
set_option maxRecDepth 20000 in
theorem cw_Mod_within : Cond.code M_Mod_within.1 M_Mod_within.2.1 M_Mod_within.2.2.1 M_Mod_within.2.2.2.1 ∈ gw := gm6 (i := 235) rfl rfl
abbrev M_Mod_oneOf : MI := (⟨"CascadeBusModel", "oneOf", "(II)I"⟩, prog_14_method_46_code, 4, (Option.some FieldType.int), [])
set_option maxRecDepth 20000 in
theorem cw_Mod_oneOf : Cond.code M_Mod_oneOf.1 M_Mod_oneOf.2.1 M_Mod_oneOf.2.2.1 M_Mod_oneOf.2.2.2.1 ∈ gw := gm6 (i := 239) rfl rfl
abbrev M_Mod_link1 : MI := (⟨"CascadeBusModel", "link1", "()V"⟩, prog_14_method_51_code, 4, none, [])
set_option maxRecDepth 20000 in
theorem cw_Mod_link1 : Cond.code M_Mod_link1.1 M_Mod_link1.2.1 M_Mod_link1.2.2.1 M_Mod_link1.2.2.2.1 ∈ gw := gm7 (i := 3) rfl rfl
abbrev M_Mod_isPlace : MI := (⟨"CascadeBusModel", "isPlace", "(III)Z"⟩, prog_14_method_50_code, 3, (Option.some FieldType.boolean), [])
set_option maxRecDepth 20000 in
theorem cw_Mod_isPlace : Cond.code M_Mod_isPlace.1 M_Mod_isPlace.2.1 M_Mod_isPlace.2.2.1 M_Mod_isPlace.2.2.2.1 ∈ gw := gm7 (i := 6) rfl rfl
abbrev M_Mod_isFree : MI := (⟨"CascadeBusModel", "isFree", "(III)Z"⟩, prog_14_method_49_code, 5, (Option.some FieldType.boolean), [])
set_option maxRecDepth 20000 in
theorem cw_Mod_isFree : Cond.code M_Mod_isFree.1 M_Mod_isFree.2.1 M_Mod_isFree.2.2.1 M_Mod_isFree.2.2.2.1 ∈ gw := gm7 (i := 10) rfl rfl
abbrev M_Mod_aheadOf : MI := (⟨"CascadeBusModel", "aheadOf", "(I)I"⟩, prog_14_method_48_code, 5, (Option.some FieldType.int), [])
set_option maxRecDepth 20000 in
theorem cw_Mod_aheadOf : Cond.code M_Mod_aheadOf.1 M_Mod_aheadOf.2.1 M_Mod_aheadOf.2.2.1 M_Mod_aheadOf.2.2.2.1 ∈ gw := gm7 (i := 14) rfl rfl
abbrev M_Mod_plant1 : MI := (⟨"CascadeBusModel", "plant1", "()V"⟩, prog_14_method_52_code, 3, none, [])
set_option maxRecDepth 20000 in
theorem cw_Mod_plant1 : Cond.code M_Mod_plant1.1 M_Mod_plant1.2.1 M_Mod_plant1.2.2.1 M_Mod_plant1.2.2.2.1 ∈ gw := gm7 (i := 18) rfl rfl
abbrev M_Mod_once1 : MI := (⟨"CascadeBusModel", "once1", "(I)V"⟩, prog_14_method_53_code, 2, none, [])
set_option maxRecDepth 20000 in
theorem cw_Mod_once1 : Cond.code M_Mod_once1.1 M_Mod_once1.2.1 M_Mod_once1.2.2.1 M_Mod_once1.2.2.2.1 ∈ gw := gm7 (i := 22) rfl rfl
abbrev M_Mod_becomes : MI := (⟨"CascadeBusModel", "becomes", "()V"⟩, prog_14_method_58_code, 1, none, [])
set_option maxRecDepth 20000 in
theorem cw_Mod_becomes : Cond.code M_Mod_becomes.1 M_Mod_becomes.2.1 M_Mod_becomes.2.2.1 M_Mod_becomes.2.2.2.1 ∈ gw := gm7 (i := 26) rfl rfl
abbrev M_Mod_moves : MI := (⟨"CascadeBusModel", "moves", "([I[I)V"⟩, prog_14_method_57_code, 3, none, [])
set_option maxRecDepth 20000 in
theorem cw_Mod_moves : Cond.code M_Mod_moves.1 M_Mod_moves.2.1 M_Mod_moves.2.2.1 M_Mod_moves.2.2.2.1 ∈ gw := gm7 (i := 29) rfl rfl
abbrev M_Mod_fault : MI := (⟨"CascadeBusModel", "fault", "()I"⟩, prog_14_method_59_code, 1, (Option.some FieldType.int), [])
set_option maxRecDepth 20000 in
theorem cw_Mod_fault : Cond.code M_Mod_fault.1 M_Mod_fault.2.1 M_Mod_fault.2.2.1 M_Mod_fault.2.2.2.1 ∈ gw := gm7 (i := 33) rfl rfl
abbrev M_Mod_count : MI := (⟨"CascadeBusModel", "count", "(I)I"⟩, prog_14_method_60_code, 2, (Option.some FieldType.int), [])
set_option maxRecDepth 20000 in
theorem cw_Mod_count : Cond.code M_Mod_count.1 M_Mod_count.2.1 M_Mod_count.2.2.1 M_Mod_count.2.2.2.1 ∈ gw := gm7 (i := 37) rfl rfl
abbrev M_Mod_block : MI := (⟨"CascadeBusModel", "block", "(II)I"⟩, prog_14_method_63_code, 3, (Option.some FieldType.int), [])
set_option maxRecDepth 20000 in
theorem cw_Mod_block : Cond.code M_Mod_block.1 M_Mod_block.2.1 M_Mod_block.2.2.1 M_Mod_block.2.2.2.1 ∈ gw := gm7 (i := 41) rfl rfl
abbrev M_Mod_isBlock : MI := (⟨"CascadeBusModel", "isBlock", "(I)Z"⟩, prog_14_method_61_code, 2, (Option.some FieldType.boolean), [])
set_option maxRecDepth 20000 in
theorem cw_Mod_isBlock : Cond.code M_Mod_isBlock.1 M_Mod_isBlock.2.1 M_Mod_isBlock.2.2.1 M_Mod_isBlock.2.2.2.1 ∈ gw := gm7 (i := 45) rfl rfl
abbrev M_Mod_takenAt : MI := (⟨"CascadeBusModel", "takenAt", "(I)I"⟩, prog_14_method_62_code, 3, (Option.some FieldType.int), [])
set_option maxRecDepth 20000 in
theorem cw_Mod_takenAt : Cond.code M_Mod_takenAt.1 M_Mod_takenAt.2.1 M_Mod_takenAt.2.2.1 M_Mod_takenAt.2.2.2.1 ∈ gw := gm7 (i := 49) rfl rfl
abbrev M_Mod_link : MI := (⟨"CascadeBusModel", "link", "(II)I"⟩, prog_14_method_64_code, 3, (Option.some FieldType.int), [])
set_option maxRecDepth 20000 in
theorem cw_Mod_link : Cond.code M_Mod_link.1 M_Mod_link.2.1 M_Mod_link.2.2.1 M_Mod_link.2.2.2.1 ∈ gw := gm7 (i := 53) rfl rfl
abbrev M_Mod_plant : MI := (⟨"CascadeBusModel", "plant", "(II)I"⟩, prog_14_method_65_code, 3, (Option.some FieldType.int), [])
set_option maxRecDepth 20000 in
theorem cw_Mod_plant : Cond.code M_Mod_plant.1 M_Mod_plant.2.1 M_Mod_plant.2.2.1 M_Mod_plant.2.2.2.1 ∈ gw := gm7 (i := 57) rfl rfl
abbrev M_Mod_actuated : MI := (⟨"CascadeBusModel", "actuated", "(II)I"⟩, prog_14_method_34_code, 5, (Option.some FieldType.int), [])
set_option maxRecDepth 20000 in
theorem cw_Mod_actuated : Cond.code M_Mod_actuated.1 M_Mod_actuated.2.1 M_Mod_actuated.2.2.1 M_Mod_actuated.2.2.2.1 ∈ gw := gm7 (i := 61) rfl rfl
abbrev M_Mod_target : MI := (⟨"CascadeBusModel", "target", "(II)I"⟩, prog_14_method_70_code, 4, (Option.some FieldType.int), [])
set_option maxRecDepth 20000 in
theorem cw_Mod_target : Cond.code M_Mod_target.1 M_Mod_target.2.1 M_Mod_target.2.2.1 M_Mod_target.2.2.2.1 ∈ gw := gm7 (i := 65) rfl rfl
abbrev M_Mod_canTarget : MI := (⟨"CascadeBusModel", "canTarget", "(III)Z"⟩, prog_14_method_69_code, 4, (Option.some FieldType.boolean), [])
set_option maxRecDepth 20000 in
theorem cw_Mod_canTarget : Cond.code M_Mod_canTarget.1 M_Mod_canTarget.2.1 M_Mod_canTarget.2.2.1 M_Mod_canTarget.2.2.2.1 ∈ gw := gm7 (i := 69) rfl rfl
abbrev M_Mod_refuses : MI := (⟨"CascadeBusModel", "refuses", "(I)I"⟩, prog_14_method_67_code, 2, (Option.some FieldType.int), [])
set_option maxRecDepth 20000 in
theorem cw_Mod_refuses : Cond.code M_Mod_refuses.1 M_Mod_refuses.2.1 M_Mod_refuses.2.2.1 M_Mod_refuses.2.2.2.1 ∈ gw := gm7 (i := 73) rfl rfl
abbrev M_Mod_keeps : MI := (⟨"CascadeBusModel", "keeps", "()V"⟩, prog_14_method_68_code, 1, none, [])
set_option maxRecDepth 20000 in
theorem cw_Mod_keeps : Cond.code M_Mod_keeps.1 M_Mod_keeps.2.1 M_Mod_keeps.2.2.1 M_Mod_keeps.2.2.2.1 ∈ gw := gm7 (i := 77) rfl rfl
abbrev M_Mod_keptAt : MI := (⟨"CascadeBusModel", "keptAt", "(II)I"⟩, prog_14_method_66_code, 2, (Option.some FieldType.int), [])
set_option maxRecDepth 20000 in
theorem cw_Mod_keptAt : Cond.code M_Mod_keptAt.1 M_Mod_keptAt.2.1 M_Mod_keptAt.2.2.1 M_Mod_keptAt.2.2.2.1 ∈ gw := gm7 (i := 80) rfl rfl
abbrev M_Mod_copies : MI := (⟨"CascadeBusModel", "copies", "(III)V"⟩, prog_14_method_8_code, 5, none, [])
set_option maxRecDepth 20000 in
theorem cw_Mod_copies : Cond.code M_Mod_copies.1 M_Mod_copies.2.1 M_Mod_copies.2.2.1 M_Mod_copies.2.2.2.1 ∈ gw := gm7 (i := 84) rfl rfl
abbrev M_Mod_hand : MI := (⟨"CascadeBusModel", "hand", "(II)I"⟩, prog_14_method_72_code, 5, (Option.some FieldType.int), [])
set_option maxRecDepth 20000 in
theorem cw_Mod_hand : Cond.code M_Mod_hand.1 M_Mod_hand.2.1 M_Mod_hand.2.2.1 M_Mod_hand.2.2.2.1 ∈ gw := gm7 (i := 88) rfl rfl
abbrev M_Mod_byHand : MI := (⟨"CascadeBusModel", "byHand", "(II)I"⟩, prog_14_method_71_code, 4, (Option.some FieldType.int), [])
set_option maxRecDepth 20000 in
theorem cw_Mod_byHand : Cond.code M_Mod_byHand.1 M_Mod_byHand.2.1 M_Mod_byHand.2.2.1 M_Mod_byHand.2.2.2.1 ∈ gw := gm7 (i := 92) rfl rfl
abbrev M_Mod_power : MI := (⟨"CascadeBusModel", "power", "(IZ)I"⟩, prog_14_method_74_code, 3, (Option.some FieldType.int), [])
set_option maxRecDepth 20000 in
theorem cw_Mod_power : Cond.code M_Mod_power.1 M_Mod_power.2.1 M_Mod_power.2.2.1 M_Mod_power.2.2.2.1 ∈ gw := gm7 (i := 96) rfl rfl
abbrev M_Mod_isOn : MI := (⟨"CascadeBusModel", "isOn", "(II)Z"⟩, prog_14_method_19_code, 3, (Option.some FieldType.boolean), [])
set_option maxRecDepth 20000 in
theorem cw_Mod_isOn : Cond.code M_Mod_isOn.1 M_Mod_isOn.2.1 M_Mod_isOn.2.2.1 M_Mod_isOn.2.2.2.1 ∈ gw := gm7 (i := 100) rfl rfl
abbrev M_Mod_powers : MI := (⟨"CascadeBusModel", "powers", "(IIZ)V"⟩, prog_14_method_73_code, 4, none, [])
set_option maxRecDepth 20000 in
theorem cw_Mod_powers : Cond.code M_Mod_powers.1 M_Mod_powers.2.1 M_Mod_powers.2.2.1 M_Mod_powers.2.2.2.1 ∈ gw := gm7 (i := 104) rfl rfl
abbrev M_Mod_broken : MI := (⟨"CascadeBusModel", "broken", "(IZ)I"⟩, prog_14_method_75_code, 3, (Option.some FieldType.int), [])
set_option maxRecDepth 20000 in
theorem cw_Mod_broken : Cond.code M_Mod_broken.1 M_Mod_broken.2.1 M_Mod_broken.2.2.1 M_Mod_broken.2.2.2.1 ∈ gw := gm7 (i := 108) rfl rfl
abbrev M_Mod_cycles : MI := (⟨"CascadeBusModel", "cycles", "(I)I"⟩, prog_14_method_76_code, 2, (Option.some FieldType.int), [])
set_option maxRecDepth 20000 in
theorem cw_Mod_cycles : Cond.code M_Mod_cycles.1 M_Mod_cycles.2.1 M_Mod_cycles.2.2.1 M_Mod_cycles.2.2.2.1 ∈ gw := gm7 (i := 112) rfl rfl
abbrev M_Mod_goes : MI := (⟨"CascadeBusModel", "goes", "(II)V"⟩, prog_14_method_38_code, 4, none, [])
set_option maxRecDepth 20000 in
theorem cw_Mod_goes : Cond.code M_Mod_goes.1 M_Mod_goes.2.1 M_Mod_goes.2.2.1 M_Mod_goes.2.2.2.1 ∈ gw := gm7 (i := 116) rfl rfl
abbrev M_Mod_cycle : MI := (⟨"CascadeBusModel", "cycle", "(I)V"⟩, prog_14_method_37_code, 4, none, [])
set_option maxRecDepth 20000 in
theorem cw_Mod_cycle : Cond.code M_Mod_cycle.1 M_Mod_cycle.2.1 M_Mod_cycle.2.2.1 M_Mod_cycle.2.2.2.1 ∈ gw := gm7 (i := 120) rfl rfl
abbrev M_Mod_put : MI := (⟨"CascadeBusModel", "put", "(I)I"⟩, prog_14_method_5_code, 1, (Option.some FieldType.int), [])
set_option maxRecDepth 20000 in
theorem cw_Mod_put : Cond.code M_Mod_put.1 M_Mod_put.2.1 M_Mod_put.2.2.1 M_Mod_put.2.2.2.1 ∈ gw := gm7 (i := 123) rfl rfl
abbrev M_Mod_schedules : MI := (⟨"CascadeBusModel", "schedules", "(I)V"⟩, prog_14_method_36_code, 2, none, [])
set_option maxRecDepth 20000 in
theorem cw_Mod_schedules : Cond.code M_Mod_schedules.1 M_Mod_schedules.2.1 M_Mod_schedules.2.2.1 M_Mod_schedules.2.2.2.1 ∈ gw := gm7 (i := 127) rfl rfl
abbrev M_Mod_lowest : MI := (⟨"CascadeBusModel", "lowest", "(I)I"⟩, prog_14_method_35_code, 2, (Option.some FieldType.int), [])
set_option maxRecDepth 20000 in
theorem cw_Mod_lowest : Cond.code M_Mod_lowest.1 M_Mod_lowest.2.1 M_Mod_lowest.2.2.1 M_Mod_lowest.2.2.2.1 ∈ gw := gm7 (i := 130) rfl rfl
abbrev M_Mod_comes : MI := (⟨"CascadeBusModel", "comes", "(II)V"⟩, prog_14_method_23_code, 5, none, [])
set_option maxRecDepth 20000 in
theorem cw_Mod_comes : Cond.code M_Mod_comes.1 M_Mod_comes.2.1 M_Mod_comes.2.2.1 M_Mod_comes.2.2.2.1 ∈ gw := gm7 (i := 134) rfl rfl
abbrev M_Mod_doesCome : MI := (⟨"CascadeBusModel", "doesCome", "(III)Z"⟩, prog_14_method_21_code, 4, (Option.some FieldType.boolean), [])
set_option maxRecDepth 20000 in
theorem cw_Mod_doesCome : Cond.code M_Mod_doesCome.1 M_Mod_doesCome.2.1 M_Mod_doesCome.2.2.1 M_Mod_doesCome.2.2.2.1 ∈ gw := gm7 (i := 138) rfl rfl
abbrev M_Mod_ages : MI := (⟨"CascadeBusModel", "ages", "(II)V"⟩, prog_14_method_22_code, 3, none, [])
set_option maxRecDepth 20000 in
theorem cw_Mod_ages : Cond.code M_Mod_ages.1 M_Mod_ages.2.1 M_Mod_ages.2.2.1 M_Mod_ages.2.2.2.1 ∈ gw := gm7 (i := 142) rfl rfl
abbrev M_Mod_runs : MI := (⟨"CascadeBusModel", "runs", "(II)V"⟩, prog_14_method_33_code, 3, none, [])
set_option maxRecDepth 20000 in
theorem cw_Mod_runs : Cond.code M_Mod_runs.1 M_Mod_runs.2.1 M_Mod_runs.2.2.1 M_Mod_runs.2.2.2.1 ∈ gw := gm7 (i := 146) rfl rfl
abbrev M_Mod_actualOf : MI := (⟨"CascadeBusModel", "actualOf", "(II)I"⟩, prog_14_method_27_code, 6, (Option.some FieldType.int), [])
set_option maxRecDepth 20000 in
theorem cw_Mod_actualOf : Cond.code M_Mod_actualOf.1 M_Mod_actualOf.2.1 M_Mod_actualOf.2.2.1 M_Mod_actualOf.2.2.2.1 ∈ gw := gm7 (i := 150) rfl rfl
abbrev M_Mod_isGood : MI := (⟨"CascadeBusModel", "isGood", "(II)Z"⟩, prog_14_method_25_code, 3, (Option.some FieldType.boolean), [])
set_option maxRecDepth 20000 in
theorem cw_Mod_isGood : Cond.code M_Mod_isGood.1 M_Mod_isGood.2.1 M_Mod_isGood.2.2.1 M_Mod_isGood.2.2.2.1 ∈ gw := gm7 (i := 154) rfl rfl
abbrev M_Mod_fallsTo : MI := (⟨"CascadeBusModel", "fallsTo", "(III)I"⟩, prog_14_method_26_code, 4, (Option.some FieldType.int), [])
set_option maxRecDepth 20000 in
theorem cw_Mod_fallsTo : Cond.code M_Mod_fallsTo.1 M_Mod_fallsTo.2.1 M_Mod_fallsTo.2.2.1 M_Mod_fallsTo.2.2.2.1 ∈ gw := gm7 (i := 158) rfl rfl
abbrev M_Mod_runsInput : MI := (⟨"CascadeBusModel", "runsInput", "(II)V"⟩, prog_14_method_28_code, 6, none, [])
set_option maxRecDepth 20000 in
theorem cw_Mod_runsInput : Cond.code M_Mod_runsInput.1 M_Mod_runsInput.2.1 M_Mod_runsInput.2.2.1 M_Mod_runsInput.2.2.2.1 ∈ gw := gm7 (i := 162) rfl rfl
abbrev M_Mod_runsPick : MI := (⟨"CascadeBusModel", "runsPick", "(II)V"⟩, prog_14_method_29_code, 10, none, [])
set_option maxRecDepth 20000 in
theorem cw_Mod_runsPick : Cond.code M_Mod_runsPick.1 M_Mod_runsPick.2.1 M_Mod_runsPick.2.2.1 M_Mod_runsPick.2.2.2.1 ∈ gw := gm7 (i := 166) rfl rfl
abbrev M_Mod_runsOutput : MI := (⟨"CascadeBusModel", "runsOutput", "(II)V"⟩, prog_14_method_30_code, 9, none, [])
set_option maxRecDepth 20000 in
theorem cw_Mod_runsOutput : Cond.code M_Mod_runsOutput.1 M_Mod_runsOutput.2.1 M_Mod_runsOutput.2.2.1 M_Mod_runsOutput.2.2.2.1 ∈ gw := gm7 (i := 170) rfl rfl
abbrev M_Mod_runsPid : MI := (⟨"CascadeBusModel", "runsPid", "(II)V"⟩, prog_14_method_31_code, 11, none, [])
set_option maxRecDepth 20000 in
theorem cw_Mod_runsPid : Cond.code M_Mod_runsPid.1 M_Mod_runsPid.2.1 M_Mod_runsPid.2.2.1 M_Mod_runsPid.2.2.2.1 ∈ gw := gm7 (i := 174) rfl rfl
abbrev M_Mod_setFrom : MI := (⟨"CascadeBusModel", "setFrom", "(I)I"⟩, prog_14_method_17_code, 3, (Option.some FieldType.int), [])
set_option maxRecDepth 20000 in
theorem cw_Mod_setFrom : Cond.code M_Mod_setFrom.1 M_Mod_setFrom.2.1 M_Mod_setFrom.2.2.1 M_Mod_setFrom.2.2.2.1 ∈ gw := gm7 (i := 178) rfl rfl
abbrev M_Mod_moved : MI := (⟨"CascadeBusModel", "moved", "(IIII)I"⟩, prog_14_method_32_code, 7, (Option.some FieldType.int), [])
set_option maxRecDepth 20000 in
theorem cw_Mod_moved : Cond.code M_Mod_moved.1 M_Mod_moved.2.1 M_Mod_moved.2.2.1 M_Mod_moved.2.2.2.1 ∈ gw := gm7 (i := 182) rfl rfl
abbrev M_Mod_gainOf : MI := (⟨"CascadeBusModel", "gainOf", "(I)I"⟩, prog_14_method_20_code, 2, (Option.some FieldType.int), [])
set_option maxRecDepth 20000 in
theorem cw_Mod_gainOf : Cond.code M_Mod_gainOf.1 M_Mod_gainOf.2.1 M_Mod_gainOf.2.2.1 M_Mod_gainOf.2.2.2.1 ∈ gw := gm7 (i := 186) rfl rfl
abbrev M_Mod_comesBack : MI := (⟨"CascadeBusModel", "comesBack", "(II)V"⟩, prog_14_method_24_code, 5, none, [])
set_option maxRecDepth 20000 in
theorem cw_Mod_comesBack : Cond.code M_Mod_comesBack.1 M_Mod_comesBack.2.1 M_Mod_comesBack.2.2.1 M_Mod_comesBack.2.2.2.1 ∈ gw := gm7 (i := 190) rfl rfl
abbrev M_Mod_undo : MI := (⟨"CascadeBusModel", "undo", "()I"⟩, prog_14_method_77_code, 1, (Option.some FieldType.int), [])
set_option maxRecDepth 20000 in
theorem cw_Mod_undo : Cond.code M_Mod_undo.1 M_Mod_undo.2.1 M_Mod_undo.2.2.1 M_Mod_undo.2.2.2.1 ∈ gw := gm7 (i := 194) rfl rfl
abbrev M_Mod_then : MI := (⟨"CascadeBusModel", "then", "(III)I"⟩, prog_14_method_79_code, 5, (Option.some FieldType.int), [])
set_option maxRecDepth 20000 in
theorem cw_Mod_then : Cond.code M_Mod_then.1 M_Mod_then.2.1 M_Mod_then.2.2.1 M_Mod_then.2.2.2.1 ∈ gw := gm7 (i := 198) rfl rfl
abbrev M_Mod_tries : MI := (⟨"CascadeBusModel", "tries", "()V"⟩, prog_14_method_78_code, 1, none, [])
set_option maxRecDepth 20000 in
theorem cw_Mod_tries : Cond.code M_Mod_tries.1 M_Mod_tries.2.1 M_Mod_tries.2.2.1 M_Mod_tries.2.2.2.1 ∈ gw := gm7 (i := 202) rfl rfl
abbrev M_Mod_first : MI := (⟨"CascadeBusModel", "first", "(I)I"⟩, prog_14_method_80_code, 3, (Option.some FieldType.int), [])
set_option maxRecDepth 20000 in
theorem cw_Mod_first : Cond.code M_Mod_first.1 M_Mod_first.2.1 M_Mod_first.2.2.1 M_Mod_first.2.2.2.1 ∈ gw := gm7 (i := 206) rfl rfl
abbrev M_Mod_jump : MI := (⟨"CascadeBusModel", "jump", "(II)I"⟩, prog_14_method_81_code, 6, (Option.some FieldType.int), [])
set_option maxRecDepth 20000 in
theorem cw_Mod_jump : Cond.code M_Mod_jump.1 M_Mod_jump.2.1 M_Mod_jump.2.2.1 M_Mod_jump.2.2.2.1 ∈ gw := gm7 (i := 210) rfl rfl
abbrev M_Mod_span : MI := (⟨"CascadeBusModel", "span", "(I)I"⟩, prog_14_method_7_code, 1, (Option.some FieldType.int), [])
set_option maxRecDepth 20000 in
theorem cw_Mod_span : Cond.code M_Mod_span.1 M_Mod_span.2.1 M_Mod_span.2.2.1 M_Mod_span.2.2.2.1 ∈ gw := gm7 (i := 213) rfl rfl
abbrev M_Mod_lost : MI := (⟨"CascadeBusModel", "lost", "(II)I"⟩, prog_14_method_83_code, 3, (Option.some FieldType.int), [])
set_option maxRecDepth 20000 in
theorem cw_Mod_lost : Cond.code M_Mod_lost.1 M_Mod_lost.2.1 M_Mod_lost.2.2.1 M_Mod_lost.2.2.2.1 ∈ gw := gm7 (i := 217) rfl rfl
abbrev M_Mod_lostBy : MI := (⟨"CascadeBusModel", "lostBy", "(II)I"⟩, prog_14_method_82_code, 6, (Option.some FieldType.int), [])
set_option maxRecDepth 20000 in
theorem cw_Mod_lostBy : Cond.code M_Mod_lostBy.1 M_Mod_lostBy.2.1 M_Mod_lostBy.2.2.1 M_Mod_lostBy.2.2.2.1 ∈ gw := gm7 (i := 221) rfl rfl
abbrev M_Mod_toRide : MI := (⟨"CascadeBusModel", "toRide", "()I"⟩, prog_14_method_85_code, 5, (Option.some FieldType.int), [])
set_option maxRecDepth 20000 in
theorem cw_Mod_toRide : Cond.code M_Mod_toRide.1 M_Mod_toRide.2.1 M_Mod_toRide.2.2.1 M_Mod_toRide.2.2.2.1 ∈ gw := gm7 (i := 225) rfl rfl
abbrev M_Mod_ownOf : MI := (⟨"CascadeBusModel", "ownOf", "(I)I"⟩, prog_14_method_84_code, 4, (Option.some FieldType.int), [])
set_option maxRecDepth 20000 in
theorem cw_Mod_ownOf : Cond.code M_Mod_ownOf.1 M_Mod_ownOf.2.1 M_Mod_ownOf.2.2.1 M_Mod_ownOf.2.2.2.1 ∈ gw := gm7 (i := 229) rfl rfl
abbrev M_Mod_toTune : MI := (⟨"CascadeBusModel", "toTune", "(III)I"⟩, prog_14_method_87_code, 6, (Option.some FieldType.int), [])
set_option maxRecDepth 20000 in
theorem cw_Mod_toTune : Cond.code M_Mod_toTune.1 M_Mod_toTune.2.1 M_Mod_toTune.2.2.1 M_Mod_toTune.2.2.2.1 ∈ gw := gm7 (i := 233) rfl rfl
abbrev M_Mod_isTame : MI := (⟨"CascadeBusModel", "isTame", "(III)Z"⟩, prog_14_method_86_code, 7, (Option.some FieldType.boolean), [])
set_option maxRecDepth 20000 in
theorem cw_Mod_isTame : Cond.code M_Mod_isTame.1 M_Mod_isTame.2.1 M_Mod_isTame.2.2.1 M_Mod_isTame.2.2.2.1 ∈ gw := gm7 (i := 237) rfl rfl
abbrev M_Mod_slack : MI := (⟨"CascadeBusModel", "slack", "(I)I"⟩, prog_14_method_88_code, 6, (Option.some FieldType.int), [])
set_option maxRecDepth 20000 in
theorem cw_Mod_slack : Cond.code M_Mod_slack.1 M_Mod_slack.2.1 M_Mod_slack.2.2.1 M_Mod_slack.2.2.2.1 ∈ gw := gm8 (i := 1) rfl rfl
abbrev M_Mod_note : MI := (⟨"CascadeBusModel", "note", "(III)I"⟩, prog_14_method_89_code, 4, (Option.some FieldType.int), [])
set_option maxRecDepth 20000 in
theorem cw_Mod_note : Cond.code M_Mod_note.1 M_Mod_note.2.1 M_Mod_note.2.2.1 M_Mod_note.2.2.2.1 ∈ gw := gm8 (i := 5) rfl rfl
abbrev M_Mod_fits : MI := (⟨"CascadeBusModel", "fits", "()I"⟩, prog_14_method_93_code, 3, (Option.some FieldType.int), [])
set_option maxRecDepth 20000 in
theorem cw_Mod_fits : Cond.code M_Mod_fits.1 M_Mod_fits.2.1 M_Mod_fits.2.2.1 M_Mod_fits.2.2.2.1 ∈ gw := gm8 (i := 9) rfl rfl
abbrev M_Mod_isCause : MI := (⟨"CascadeBusModel", "isCause", "(I)Z"⟩, prog_14_method_91_code, 2, (Option.some FieldType.boolean), [])
set_option maxRecDepth 20000 in
theorem cw_Mod_isCause : Cond.code M_Mod_isCause.1 M_Mod_isCause.2.1 M_Mod_isCause.2.2.1 M_Mod_isCause.2.2.2.1 ∈ gw := gm8 (i := 13) rfl rfl
abbrev M_Mod_hasInput : MI := (⟨"CascadeBusModel", "hasInput", "(I)Z"⟩, prog_14_method_90_code, 3, (Option.some FieldType.boolean), [])
set_option maxRecDepth 20000 in
theorem cw_Mod_hasInput : Cond.code M_Mod_hasInput.1 M_Mod_hasInput.2.1 M_Mod_hasInput.2.2.1 M_Mod_hasInput.2.2.2.1 ∈ gw := gm8 (i := 17) rfl rfl
abbrev M_Mod_isNoted : MI := (⟨"CascadeBusModel", "isNoted", "(I)Z"⟩, prog_14_method_92_code, 5, (Option.some FieldType.boolean), [])
set_option maxRecDepth 20000 in
theorem cw_Mod_isNoted : Cond.code M_Mod_isNoted.1 M_Mod_isNoted.2.1 M_Mod_isNoted.2.2.1 M_Mod_isNoted.2.2.2.1 ∈ gw := gm8 (i := 21) rfl rfl
abbrev M_Mod_look : MI := (⟨"CascadeBusModel", "look", "(I)I"⟩, prog_14_method_94_code, 7, (Option.some FieldType.int), [])
set_option maxRecDepth 20000 in
theorem cw_Mod_look : Cond.code M_Mod_look.1 M_Mod_look.2.1 M_Mod_look.2.2.1 M_Mod_look.2.2.2.1 ∈ gw := gm8 (i := 25) rfl rfl
abbrev M_Mod_forget : MI := (⟨"CascadeBusModel", "forget", "()V"⟩, prog_14_method_95_code, 1, none, [])
set_option maxRecDepth 20000 in
theorem cw_Mod_forget : Cond.code M_Mod_forget.1 M_Mod_forget.2.1 M_Mod_forget.2.2.1 M_Mod_forget.2.2.2.1 ∈ gw := gm8 (i := 29) rfl rfl
abbrev M_Mod_years : MI := (⟨"CascadeBusModel", "years", "(III)I"⟩, prog_14_method_98_code, 6, (Option.some FieldType.int), [])
set_option maxRecDepth 20000 in
theorem cw_Mod_years : Cond.code M_Mod_years.1 M_Mod_years.2.1 M_Mod_years.2.2.1 M_Mod_years.2.2.2.1 ∈ gw := gm8 (i := 33) rfl rfl
abbrev M_Mod_year : MI := (⟨"CascadeBusModel", "year", "()V"⟩, prog_14_method_97_code, 5, none, [])
set_option maxRecDepth 20000 in
theorem cw_Mod_year : Cond.code M_Mod_year.1 M_Mod_year.2.1 M_Mod_year.2.2.1 M_Mod_year.2.2.2.1 ∈ gw := gm8 (i := 37) rfl rfl
abbrev M_Mod_draw : MI := (⟨"CascadeBusModel", "draw", "(I)I"⟩, prog_14_method_96_code, 2, (Option.some FieldType.int), [])
set_option maxRecDepth 20000 in
theorem cw_Mod_draw : Cond.code M_Mod_draw.1 M_Mod_draw.2.1 M_Mod_draw.2.2.1 M_Mod_draw.2.2.2.1 ∈ gw := gm8 (i := 41) rfl rfl
abbrev M_Mod_image : MI := (⟨"CascadeBusModel", "image", "()V"⟩, prog_14_method_99_code, 2, none, [])
set_option maxRecDepth 20000 in
theorem cw_Mod_image : Cond.code M_Mod_image.1 M_Mod_image.2.1 M_Mod_image.2.2.1 M_Mod_image.2.2.2.1 ∈ gw := gm8 (i := 46) rfl rfl
abbrev M_Mod_restore : MI := (⟨"CascadeBusModel", "restore", "()Z"⟩, prog_14_method_100_code, 2, (Option.some FieldType.boolean), [])
set_option maxRecDepth 20000 in
theorem cw_Mod_restore : Cond.code M_Mod_restore.1 M_Mod_restore.2.1 M_Mod_restore.2.2.1 M_Mod_restore.2.2.2.1 ∈ gw := gm8 (i := 50) rfl rfl
