/-! the classes whose objects the worlds hold -/
abbrev RNR : String := "NovaDeskModel"
def TTR : u_T := fun k => match k with
  | 0 => ("NovaDeskModel", "memory", "[I", true)
  | 1 => ("NovaDeskModel", "accumulators", "[I", true)
  | 2 => ("NovaDeskModel", "carry", "I", false)
  | 3 => ("NovaDeskModel", "pc", "I", false)
  | 4 => ("NovaDeskModel", "switches", "I", false)
  | 5 => ("NovaDeskModel", "ion", "Z", false)
  | 6 => ("NovaDeskModel", "justIon", "Z", false)
  | 7 => ("NovaDeskModel", "mask", "I", false)
  | 8 => ("NovaDeskModel", "done", "I", false)
  | 9 => ("NovaDeskModel", "interrupts", "I", false)
  | 10 => ("NovaDeskModel", "lost", "Z", false)
  | 11 => ("NovaDeskModel", "words", "[I", true)
  | 12 => ("NovaDeskModel", "busy", "[Z", true)
  | 13 => ("NovaDeskModel", "ready", "[Z", true)
  | 14 => ("NovaDeskModel", "ticks", "[I", true)
  | 15 => ("NovaDeskModel", "reel", "[I", true)
  | 16 => ("NovaDeskModel", "reelSize", "I", false)
  | 17 => ("NovaDeskModel", "sheet", "[I", true)
  | 18 => ("NovaDeskModel", "sheetSize", "I", false)
  | 19 => ("NovaDeskModel", "why", "I", false)
  | 20 => ("NovaDeskModel", "text", "[B", true)
  | 21 => ("NovaDeskModel", "length", "I", false)
  | 22 => ("NovaDeskModel", "fault", "I", false)
  | 23 => ("NovaDeskModel", "faultLine", "I", false)
  | 24 => ("NovaDeskModel", "line", "I", false)
  | 25 => ("NovaDeskModel", "labels", "[J", true)
  | 26 => ("NovaDeskModel", "places", "[I", true)
  | 27 => ("NovaDeskModel", "labelCount", "I", false)
  | 28 => ("NovaDeskModel", "kept", "[J", true)
  | 29 => ("NovaDeskModel", "keptPlaces", "[I", true)
  | 30 => ("NovaDeskModel", "keptCount", "I", false)
  | 31 => ("NovaDeskModel", "targets", "[I", true)
  | 32 => ("NovaDeskModel", "made", "[I", true)
  | 33 => ("NovaDeskModel", "madeCount", "I", false)
  | 34 => ("NovaDeskModel", "here", "I", false)
  | 35 => ("NovaDeskModel", "at", "I", false)
  | 36 => ("NovaDeskModel", "lineEnd", "I", false)
  | 37 => ("NovaDeskModel", "kind", "I", false)
  | 38 => ("NovaDeskModel", "value", "I", false)
  | 39 => ("NovaDeskModel", "name", "J", false)
  | 40 => ("NovaDeskModel", "asked", "[I", true)
  | 41 => ("NovaDeskModel", "bounds", "[I", true)
  | 42 => ("NovaDeskModel", "askedCount", "I", false)
  | 43 => ("NovaDeskModel", "outside", "Z", false)
  | 44 => ("NovaDeskModel", "sort", "I", false)
  | 45 => ("NovaDeskModel", "base", "I", false)
  | 46 => ("NovaDeskModel", "told", "[I", true)
  | 47 => ("NovaDeskModel", "toldSize", "I", false)
  | _ => ("NovaDeskModel", "thrown", "I", false)
def tyR : Nat → FieldType := fun k => match k with
  | 0 => (.array .int)
  | 1 => (.array .int)
  | 2 => .int
  | 3 => .int
  | 4 => .int
  | 5 => .boolean
  | 6 => .boolean
  | 7 => .int
  | 8 => .int
  | 9 => .int
  | 10 => .boolean
  | 11 => (.array .int)
  | 12 => (.array .boolean)
  | 13 => (.array .boolean)
  | 14 => (.array .int)
  | 15 => (.array .int)
  | 16 => .int
  | 17 => (.array .int)
  | 18 => .int
  | 19 => .int
  | 20 => (.array .byte)
  | 21 => .int
  | 22 => .int
  | 23 => .int
  | 24 => .int
  | 25 => (.array .long)
  | 26 => (.array .int)
  | 27 => .int
  | 28 => (.array .long)
  | 29 => (.array .int)
  | 30 => .int
  | 31 => (.array .int)
  | 32 => (.array .int)
  | 33 => .int
  | 34 => .int
  | 35 => .int
  | 36 => .int
  | 37 => .int
  | 38 => .int
  | 39 => .long
  | 40 => (.array .int)
  | 41 => (.array .int)
  | 42 => .int
  | 43 => .boolean
  | 44 => .int
  | 45 => .int
  | 46 => (.array .int)
  | 47 => .int
  | _ => .int
theorem nmR : ∀ a, a < 49 → ∀ b, b < 49 → a ≠ b → (TTR a).2.1 ≠ (TTR b).2.1 := by decide +kernel
theorem tyR_ok : ∀ k, k < 49 → parseFieldDescriptor (TTR k).2.2.1 = some (tyR k) := by decide +kernel
theorem inwR : ∀ w ∈ u_ws RNR TTR 49, w ∈ GW := by
  have h : (u_ws RNR TTR 49) = ([1116, 1118, 1120, 1122, 1124, 1126, 1128, 1130, 1132, 1134, 1136, 1138, 1140, 1142, 1144, 1146, 1148, 1150, 1152, 1154, 1156, 1158, 1160, 1162, 1164, 1166, 1168, 1170, 1172, 1174, 1176, 1178, 1180, 1182, 1184, 1186, 1188, 1190, 1192, 1194, 1196, 1198, 1200, 1202, 1204, 1206, 1208, 1210, 1212] : List Nat).filterMap (fun i => tables_1[i]?) ∧ (u_ws RNR TTR 49).all goodWord = true := by decide +kernel
  intro w hw
  have g := List.all_eq_true.mp h.2 w hw
  rw [h.1] at hw
  obtain ⟨i, -, hi⟩ := List.mem_filterMap.mp hw
  exact gw_t (List.mem_of_getElem? hi) g
abbrev RNN : String := "NovaDesk"
def TTN : u_T := fun k => match k with
  | 0 => ("NovaDesk", "machine", "LNovaDesk$Machine;", true)
  | 1 => ("NovaDesk", "assembler", "LNovaDesk$Assembler;", true)
  | _ => ("NovaDesk", "teller", "LNovaDesk$Teller;", true)
def tyN : Nat → FieldType := fun k => match k with
  | 0 => (.object "NovaDesk$Machine")
  | 1 => (.object "NovaDesk$Assembler")
  | _ => (.object "NovaDesk$Teller")
theorem nmN : ∀ a, a < 3 → ∀ b, b < 3 → a ≠ b → (TTN a).2.1 ≠ (TTN b).2.1 := by decide +kernel
theorem tyN_ok : ∀ k, k < 3 → parseFieldDescriptor (TTN k).2.2.1 = some (tyN k) := by decide +kernel
theorem inwN : ∀ w ∈ u_ws RNN TTN 3, w ∈ GW := by
  have h : (u_ws RNN TTN 3) = ([279, 281, 283] : List Nat).filterMap (fun i => tables_1[i]?) ∧ (u_ws RNN TTN 3).all goodWord = true := by decide +kernel
  intro w hw
  have g := List.all_eq_true.mp h.2 w hw
  rw [h.1] at hw
  obtain ⟨i, -, hi⟩ := List.mem_filterMap.mp hw
  exact gw_t (List.mem_of_getElem? hi) g
abbrev RNM : String := "NovaDesk$Machine"
def TTM : u_T := fun k => match k with
  | 0 => ("NovaDesk$Machine", "memory", "[I", true)
  | 1 => ("NovaDesk$Machine", "accumulators", "[I", true)
  | 2 => ("NovaDesk$Machine", "reader", "LNovaDesk$Reader;", true)
  | 3 => ("NovaDesk$Machine", "printer", "LNovaDesk$Printer;", true)
  | 4 => ("NovaDesk$Machine", "devices", "[LNovaDesk$Device;", true)
  | 5 => ("NovaDesk$Machine", "carry", "I", false)
  | 6 => ("NovaDesk$Machine", "pc", "I", false)
  | 7 => ("NovaDesk$Machine", "switches", "I", false)
  | 8 => ("NovaDesk$Machine", "mask", "I", false)
  | 9 => ("NovaDesk$Machine", "ion", "Z", false)
  | 10 => ("NovaDesk$Machine", "letInJustNow", "Z", false)
  | 11 => ("NovaDesk$Machine", "instructions", "I", false)
  | 12 => ("NovaDesk$Machine", "interrupts", "I", false)
  | _ => ("NovaDesk$Machine", "ending", "I", false)
def tyM : Nat → FieldType := fun k => match k with
  | 0 => (.array .int)
  | 1 => (.array .int)
  | 2 => (.object "NovaDesk$Reader")
  | 3 => (.object "NovaDesk$Printer")
  | 4 => (.array (.object "NovaDesk$Device"))
  | 5 => .int
  | 6 => .int
  | 7 => .int
  | 8 => .int
  | 9 => .boolean
  | 10 => .boolean
  | 11 => .int
  | 12 => .int
  | _ => .int
theorem nmM : ∀ a, a < 14 → ∀ b, b < 14 → a ≠ b → (TTM a).2.1 ≠ (TTM b).2.1 := by decide +kernel
theorem tyM_ok : ∀ k, k < 14 → parseFieldDescriptor (TTM k).2.2.1 = some (tyM k) := by decide +kernel
theorem inwM : ∀ w ∈ u_ws RNM TTM 14, w ∈ GW := by
  have h : (u_ws RNM TTM 14) = ([139, 141, 143, 145, 147, 149, 151, 153, 155, 157, 159, 161, 163, 165] : List Nat).filterMap (fun i => tables_1[i]?) ∧ (u_ws RNM TTM 14).all goodWord = true := by decide +kernel
  intro w hw
  have g := List.all_eq_true.mp h.2 w hw
  rw [h.1] at hw
  obtain ⟨i, -, hi⟩ := List.mem_filterMap.mp hw
  exact gw_t (List.mem_of_getElem? hi) g
abbrev RNA : String := "NovaDesk$Assembler"
def TTA : u_T := fun k => match k with
  | 0 => ("NovaDesk$Assembler", "items", "LNovaDesk$Items;", true)
  | 1 => ("NovaDesk$Assembler", "latest", "LNovaDesk$Labels;", false)
  | 2 => ("NovaDesk$Assembler", "fresh", "LNovaDesk$Labels;", false)
  | 3 => ("NovaDesk$Assembler", "places", "[I", true)
  | 4 => ("NovaDesk$Assembler", "words", "[I", true)
  | 5 => ("NovaDesk$Assembler", "made", "I", false)
  | 6 => ("NovaDesk$Assembler", "operands", "[I", true)
  | 7 => ("NovaDesk$Assembler", "operandCount", "I", false)
  | 8 => ("NovaDesk$Assembler", "indirect", "Z", false)
  | 9 => ("NovaDesk$Assembler", "at", "I", false)
  | 10 => ("NovaDesk$Assembler", "location", "I", false)
  | 11 => ("NovaDesk$Assembler", "line", "I", false)
  | 12 => ("NovaDesk$Assembler", "faultNumber", "I", false)
  | _ => ("NovaDesk$Assembler", "faultLine", "I", false)
def tyA : Nat → FieldType := fun k => match k with
  | 0 => (.object "NovaDesk$Items")
  | 1 => (.object "NovaDesk$Labels")
  | 2 => (.object "NovaDesk$Labels")
  | 3 => (.array .int)
  | 4 => (.array .int)
  | 5 => .int
  | 6 => (.array .int)
  | 7 => .int
  | 8 => .boolean
  | 9 => .int
  | 10 => .int
  | 11 => .int
  | 12 => .int
  | _ => .int
theorem nmA : ∀ a, a < 14 → ∀ b, b < 14 → a ≠ b → (TTA a).2.1 ≠ (TTA b).2.1 := by decide +kernel
theorem tyA_ok : ∀ k, k < 14 → parseFieldDescriptor (TTA k).2.2.1 = some (tyA k) := by decide +kernel
theorem inwA : ∀ w ∈ u_ws RNA TTA 14, w ∈ GW := by
  have h : (u_ws RNA TTA 14) = ([234, 236, 238, 240, 242, 244, 246, 248, 250, 252, 254, 256, 258, 260] : List Nat).filterMap (fun i => tables_1[i]?) ∧ (u_ws RNA TTA 14).all goodWord = true := by decide +kernel
  intro w hw
  have g := List.all_eq_true.mp h.2 w hw
  rw [h.1] at hw
  obtain ⟨i, -, hi⟩ := List.mem_filterMap.mp hw
  exact gw_t (List.mem_of_getElem? hi) g
abbrev RNI : String := "NovaDesk$Items"
def TTI : u_T := fun k => match k with
  | 0 => ("NovaDesk$Items", "text", "[C", true)
  | 1 => ("NovaDesk$Items", "length", "I", false)
  | 2 => ("NovaDesk$Items", "items", "[J", true)
  | 3 => ("NovaDesk$Items", "count", "I", false)
  | _ => ("NovaDesk$Items", "position", "I", false)
def tyI : Nat → FieldType := fun k => match k with
  | 0 => (.array .char)
  | 1 => .int
  | 2 => (.array .long)
  | 3 => .int
  | _ => .int
theorem nmI : ∀ a, a < 5 → ∀ b, b < 5 → a ≠ b → (TTI a).2.1 ≠ (TTI b).2.1 := by decide +kernel
theorem tyI_ok : ∀ k, k < 5 → parseFieldDescriptor (TTI k).2.2.1 = some (tyI k) := by decide +kernel
theorem inwI : ∀ w ∈ u_ws RNI TTI 5, w ∈ GW := by
  have h : (u_ws RNI TTI 5) = ([188, 190, 192, 194, 196] : List Nat).filterMap (fun i => tables_1[i]?) ∧ (u_ws RNI TTI 5).all goodWord = true := by decide +kernel
  intro w hw
  have g := List.all_eq_true.mp h.2 w hw
  rw [h.1] at hw
  obtain ⟨i, -, hi⟩ := List.mem_filterMap.mp hw
  exact gw_t (List.mem_of_getElem? hi) g
abbrev RNL : String := "NovaDesk$Labels"
def TTL : u_T := fun k => match k with
  | 0 => ("NovaDesk$Labels", "keys", "[J", true)
  | 1 => ("NovaDesk$Labels", "places", "[I", true)
  | _ => ("NovaDesk$Labels", "count", "I", false)
def tyL : Nat → FieldType := fun k => match k with
  | 0 => (.array .long)
  | 1 => (.array .int)
  | _ => .int
theorem nmL : ∀ a, a < 3 → ∀ b, b < 3 → a ≠ b → (TTL a).2.1 ≠ (TTL b).2.1 := by decide +kernel
theorem tyL_ok : ∀ k, k < 3 → parseFieldDescriptor (TTL k).2.2.1 = some (tyL k) := by decide +kernel
theorem inwL : ∀ w ∈ u_ws RNL TTL 3, w ∈ GW := by
  have h : (u_ws RNL TTL 3) = ([209, 211, 213] : List Nat).filterMap (fun i => tables_1[i]?) ∧ (u_ws RNL TTL 3).all goodWord = true := by decide +kernel
  intro w hw
  have g := List.all_eq_true.mp h.2 w hw
  rw [h.1] at hw
  obtain ⟨i, -, hi⟩ := List.mem_filterMap.mp hw
  exact gw_t (List.mem_of_getElem? hi) g
abbrev RNT : String := "NovaDesk$Teller"
def TTT : u_T := fun k => match k with
  | 0 => ("NovaDesk$Teller", "characters", "[C", true)
  | _ => ("NovaDesk$Teller", "length", "I", false)
def tyT : Nat → FieldType := fun k => match k with
  | 0 => (.array .char)
  | _ => .int
theorem nmT : ∀ a, a < 2 → ∀ b, b < 2 → a ≠ b → (TTT a).2.1 ≠ (TTT b).2.1 := by decide +kernel
theorem tyT_ok : ∀ k, k < 2 → parseFieldDescriptor (TTT k).2.2.1 = some (tyT k) := by decide +kernel
theorem inwT : ∀ w ∈ u_ws RNT TTT 2, w ∈ GW := by
  have h : (u_ws RNT TTT 2) = ([271, 273] : List Nat).filterMap (fun i => tables_1[i]?) ∧ (u_ws RNT TTT 2).all goodWord = true := by decide +kernel
  intro w hw
  have g := List.all_eq_true.mp h.2 w hw
  rw [h.1] at hw
  obtain ⟨i, -, hi⟩ := List.mem_filterMap.mp hw
  exact gw_t (List.mem_of_getElem? hi) g
abbrev RNE : String := "NovaDesk$Reader"
def TTE : u_T := fun k => match k with
  | 0 => ("NovaDesk$Device", "maskBit", "I", true)
  | 1 => ("NovaDesk$Device", "ticksNeeded", "I", true)
  | 2 => ("NovaDesk$Device", "held", "I", false)
  | 3 => ("NovaDesk$Device", "busy", "Z", false)
  | 4 => ("NovaDesk$Device", "done", "Z", false)
  | 5 => ("NovaDesk$Device", "ticks", "I", false)
  | 6 => ("NovaDesk$Reader", "tape", "[C", true)
  | 7 => ("NovaDesk$Reader", "head", "I", false)
  | _ => ("NovaDesk$Reader", "waiting", "I", false)
def tyE : Nat → FieldType := fun k => match k with
  | 0 => .int
  | 1 => .int
  | 2 => .int
  | 3 => .boolean
  | 4 => .boolean
  | 5 => .int
  | 6 => (.array .char)
  | 7 => .int
  | _ => .int
theorem nmE : ∀ a, a < 9 → ∀ b, b < 9 → a ≠ b → (TTE a).2.1 ≠ (TTE b).2.1 := by decide +kernel
theorem tyE_ok : ∀ k, k < 9 → parseFieldDescriptor (TTE k).2.2.1 = some (tyE k) := by decide +kernel
theorem inwE : ∀ w ∈ u_ws RNE TTE 9, w ∈ GW := by
  have h : (u_ws RNE TTE 9) = ([73, 75, 77, 79, 81, 83, 67, 69, 71] : List Nat).filterMap (fun i => tables_1[i]?) ∧ (u_ws RNE TTE 9).all goodWord = true := by decide +kernel
  intro w hw
  have g := List.all_eq_true.mp h.2 w hw
  rw [h.1] at hw
  obtain ⟨i, -, hi⟩ := List.mem_filterMap.mp hw
  exact gw_t (List.mem_of_getElem? hi) g
abbrev RNP : String := "NovaDesk$Printer"
def TTP : u_T := fun k => match k with
  | 0 => ("NovaDesk$Device", "maskBit", "I", true)
  | 1 => ("NovaDesk$Device", "ticksNeeded", "I", true)
  | 2 => ("NovaDesk$Device", "held", "I", false)
  | 3 => ("NovaDesk$Device", "busy", "Z", false)
  | 4 => ("NovaDesk$Device", "done", "Z", false)
  | 5 => ("NovaDesk$Device", "ticks", "I", false)
  | 6 => ("NovaDesk$Printer", "paper", "[C", true)
  | _ => ("NovaDesk$Printer", "count", "I", false)
def tyP : Nat → FieldType := fun k => match k with
  | 0 => .int
  | 1 => .int
  | 2 => .int
  | 3 => .boolean
  | 4 => .boolean
  | 5 => .int
  | 6 => (.array .char)
  | _ => .int
theorem nmP : ∀ a, a < 8 → ∀ b, b < 8 → a ≠ b → (TTP a).2.1 ≠ (TTP b).2.1 := by decide +kernel
theorem tyP_ok : ∀ k, k < 8 → parseFieldDescriptor (TTP k).2.2.1 = some (tyP k) := by decide +kernel
theorem inwP : ∀ w ∈ u_ws RNP TTP 8, w ∈ GW := by
  have h : (u_ws RNP TTP 8) = ([100, 101, 102, 103, 104, 105, 96, 98] : List Nat).filterMap (fun i => tables_1[i]?) ∧ (u_ws RNP TTP 8).all goodWord = true := by decide +kernel
  intro w hw
  have g := List.all_eq_true.mp h.2 w hw
  rw [h.1] at hw
  obtain ⟨i, -, hi⟩ := List.mem_filterMap.mp hw
  exact gw_t (List.mem_of_getElem? hi) g
abbrev RNK : String := "NovaDesk$Clock"
def TTK : u_T := fun k => match k with
  | 0 => ("NovaDesk$Device", "maskBit", "I", true)
  | 1 => ("NovaDesk$Device", "ticksNeeded", "I", true)
  | 2 => ("NovaDesk$Device", "held", "I", false)
  | 3 => ("NovaDesk$Device", "busy", "Z", false)
  | 4 => ("NovaDesk$Device", "done", "Z", false)
  | _ => ("NovaDesk$Device", "ticks", "I", false)
def tyK : Nat → FieldType := fun k => match k with
  | 0 => .int
  | 1 => .int
  | 2 => .int
  | 3 => .boolean
  | 4 => .boolean
  | _ => .int
theorem nmK : ∀ a, a < 6 → ∀ b, b < 6 → a ≠ b → (TTK a).2.1 ≠ (TTK b).2.1 := by decide +kernel
theorem tyK_ok : ∀ k, k < 6 → parseFieldDescriptor (TTK k).2.2.1 = some (tyK k) := by decide +kernel
theorem inwK : ∀ w ∈ u_ws RNK TTK 6, w ∈ GW := by
  have h : (u_ws RNK TTK 6) = ([115, 116, 117, 118, 119, 120] : List Nat).filterMap (fun i => tables_1[i]?) ∧ (u_ws RNK TTK 6).all goodWord = true := by decide +kernel
  intro w hw
  have g := List.all_eq_true.mp h.2 w hw
  rw [h.1] at hw
  obtain ⟨i, -, hi⟩ := List.mem_filterMap.mp hw
  exact gw_t (List.mem_of_getElem? hi) g
def vcl : List vw_C := [(RNR, TTR, 49), (RNN, TTN, 3), (RNM, TTM, 14), (RNA, TTA, 14), (RNI, TTI, 5), (RNL, TTL, 3), (RNT, TTT, 2), (RNE, TTE, 9), (RNP, TTP, 8), (RNK, TTK, 6)]
abbrev tyl (cA : Nat → ClassId) : List (ClassId × FieldType) := [(cA 0, .int), (cA 1, .long), (cA 2, .byte), (cA 3, .boolean), (cA 4, .char), (cA 5, .object "NovaDesk$Device")]
