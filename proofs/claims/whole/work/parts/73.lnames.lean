/-! the law: names, decode rows, what is wanted of the pure side, by program -/
/-- an answer of the reference beside the class's: thrown alike, and where nothing was thrown the same number -/
def lawT (Rel : SS → SS → Prop) (k : Int32) (g : Int64) (u : SS) (b : Int32) (v : SS) : Prop := f_R_thrown (fun t v2 => t = k ∧ (k = 0 → g = b.toInt64) ∧ Rel u v2) v
def lawE (Rel : SS → SS → Prop) (k : Int32) (u v : SS) : Prop := f_R_thrown (fun t v2 => t = k ∧ Rel u v2) v
abbrev LA (s : State) : Nat → Prop := fun q => s.heap.size ≤ q
abbrev LLV (a r9 : Nat → Nat) (o b : Nat) (x4 : Int32) : List (Nat × Value) := [(4, .int x4), (0, .ref b), (1, .ref (a 0)), (2, .ref (r9 0)), (3, .ref o)]
/-- how the law goes on behind a call -/
def LK (p : Program) (l : Launch) (e : Env) (s : State) (m : MethodId) (b : Nat) (below : List Frame) (meth : Method) (c : Code) (Q : State → Prop) (D : va_G) (cA : Nat → ClassId) (a r9 : Nat → Nat) (ad : Nat → Nat → Nat) (o : Nat) (Rel : SS → SS → Prop) (x4 : Int32) (cells slots : Nat) : Prop :=
  ∀ {σ τ : SS} {g : Nat → Int64} {H : Heap} {locs : List Loc} {ls : Array Slot}, Rel σ τ → CX D vcl (tyl cA) (wR cA r9 τ ++ ([oc cA o g] ++ wC cA a σ)) (XL ad) (LA s) s H locs → lv_has ls 7 (LLV a r9 o b x4) → W p l e room_1 s m #[Value.ref b] below meth c H locs cells slots Q (F0 m 945 ls [])
def PT_put (Rel0 Rel : SS → SS → Prop) : Prop := ∀ (σ τ : SS) (g : Nat → Int64) (x1 : Int32) (x2 : Int32), Rel0 σ τ → f_N_put (fun r u => f_R_put (fun b9 v => lawT Rel 0 (vp_updL g 0 r.toInt64 0) u b9 v) τ x1 x2, fun k u => (k = 1 ∧ f_R_put (fun b9 v => lawT Rel 1 (g 0) u b9 v) τ x1 x2)) σ x1 x2
def PT_word (Rel0 Rel : SS → SS → Prop) : Prop := ∀ (σ τ : SS) (g : Nat → Int64) (x1 : Int32), Rel0 σ τ → f_N_word (fun r u => f_R_word (fun b9 v => lawT Rel 0 (vp_updL g 0 r.toInt64 0) u b9 v) τ x1, fun k u => (k = 1 ∧ f_R_word (fun b9 v => lawT Rel 1 (g 0) u b9 v) τ x1)) σ x1
def PT_set (Rel0 Rel : SS → SS → Prop) : Prop := ∀ (σ τ : SS) (g : Nat → Int64) (x1 : Int32) (x2 : Int32), Rel0 σ τ → f_N_set (fun r u => f_R_set (fun b9 v => lawT Rel 0 (vp_updL g 0 r.toInt64 0) u b9 v) τ x1 x2, fun k u => (k = 1 ∧ f_R_set (fun b9 v => lawT Rel 1 (g 0) u b9 v) τ x1 x2)) σ x1 x2
def PT_register (Rel0 Rel : SS → SS → Prop) : Prop := ∀ (σ τ : SS) (g : Nat → Int64) (x1 : Int32), Rel0 σ τ → f_N_register (fun r u => f_R_register (fun b9 v => lawT Rel 0 (vp_updL g 0 r.toInt64 0) u b9 v) τ x1, fun k u => (k = 1 ∧ f_R_register (fun b9 v => lawT Rel 1 (g 0) u b9 v) τ x1)) σ x1
def PT_device (Rel0 Rel : SS → SS → Prop) : Prop := ∀ (σ τ : SS) (g : Nat → Int64) (x1 : Int32) (x2 : Int32), Rel0 σ τ → f_N_device (fun r u => f_R_device (fun b9 v => lawT Rel 0 (vp_updL g 0 r.toInt64 0) u b9 v) τ x1 x2, fun k u => (k = 1 ∧ f_R_device (fun b9 v => lawT Rel 1 (g 0) u b9 v) τ x1 x2)) σ x1 x2
def PT_tape (Rel0 Rel : SS → SS → Prop) : Prop := ∀ (σ τ : SS) (g : Nat → Int64) (x1 : Int32), Rel0 σ τ → f_N_tape (fun r u => f_R_tape (fun b9 v => lawT Rel 0 (vp_updL g 0 r.toInt64 0) u b9 v) τ x1, fun k u => (k = 1 ∧ f_R_tape (fun b9 v => lawT Rel 1 (g 0) u b9 v) τ x1) ∨ (k = 2 ∧ f_R_tape (fun b9 v => lawT Rel 2 (g 0) u b9 v) τ x1)) σ x1
def PT_run (Rel0 Rel : SS → SS → Prop) : Prop := ∀ (σ τ : SS) (g : Nat → Int64) (x1 : Int32), Rel0 σ τ → f_N_run (fun r u => f_R_run (fun b9 v => lawT Rel 0 (vp_updL g 0 r.toInt64 0) u b9 v) τ x1, fun k u => (k = 1 ∧ f_R_run (fun b9 v => lawT Rel 1 (g 0) u b9 v) τ x1)) σ x1
def PT_why (Rel0 Rel : SS → SS → Prop) : Prop := ∀ (σ τ : SS), Rel0 σ τ → f_N_why (fun r u => f_R_why (fun b9 v => r = b9 ∧ Rel u v) τ) σ
def PT_printed (Rel0 Rel : SS → SS → Prop) : Prop := ∀ (σ τ : SS) (x1 : Int32), Rel0 σ τ → f_N_printed (fun r u => f_R_printed (fun b9 v => r = b9 ∧ Rel u v) τ x1) σ x1
def PT_tear (Rel0 Rel : SS → SS → Prop) : Prop := ∀ (σ τ : SS), Rel0 σ τ → f_N_tear (fun r u => f_R_tear (fun b9 v => r = b9 ∧ Rel u v) τ) σ
def PT_reset (Rel0 Rel : SS → SS → Prop) : Prop := ∀ (σ τ : SS), Rel0 σ τ → f_N_reset (fun u => f_R_reset (fun v => Rel u v) τ) σ
def PT_feed (Rel0 Rel : SS → SS → Prop) : Prop := ∀ (σ τ : SS) (g : Nat → Int64) (x1 : Int32) (x2 : Int32) (x3 : Int32) (x4 : Int32) (x5 : Int32), Rel0 σ τ → f_N_feed (fun r u => f_R_feed (fun b9 v => lawT Rel 0 (vp_updL g 0 r.toInt64 0) u b9 v) τ x1 x2 x3 x4 x5, fun k u => (k = 2 ∧ f_R_feed (fun b9 v => lawT Rel 1 (g 0) u b9 v) τ x1 x2 x3 x4 x5)) σ x1 x2 x3 x4 x5
def PT_end (Rel0 Rel : SS → SS → Prop) : Prop := ∀ (σ τ : SS) (g : Nat → Int64) (x1 : Int32), Rel0 σ τ → f_N_end (fun _ u => f_R_end (fun v => lawE Rel 0 u v) τ x1, fun k u => (k = 1 ∧ f_R_end (fun v => lawE Rel 1 u v) τ x1)) σ x1
def PT_assemble (Rel0 Rel : SS → SS → Prop) : Prop := ∀ (σ τ : SS), Rel0 σ τ → f_N_assemble (fun r u => f_R_assemble (fun b9 v => r = b9 ∧ Rel u v) τ) σ
def PT_fault (Rel0 Rel : SS → SS → Prop) : Prop := ∀ (σ τ : SS) (g : Nat → Int64) (x1 : Int32), Rel0 σ τ → f_N_fault (fun r u => f_R_fault (fun b9 v => lawT Rel 0 (vp_updL g 0 r.toInt64 0) u b9 v) τ x1, fun k u => (k = 1 ∧ f_R_fault (fun b9 v => lawT Rel 1 (g 0) u b9 v) τ x1)) σ x1
def PT_label (Rel0 Rel : SS → SS → Prop) : Prop := ∀ (σ τ : SS) (x1 : Int32) (x2 : Int32), Rel0 σ τ → f_N_label (fun r u => f_R_label (fun b9 v => r = b9 ∧ Rel u v) τ x1 x2) σ x1 x2
def PT_tell (Rel0 Rel : SS → SS → Prop) : Prop := ∀ (σ τ : SS) (g : Nat → Int64) (x1 : Int32), Rel0 σ τ → f_N_tell (fun r u => f_R_tell (fun b9 v => lawT Rel 0 (vp_updL g 0 r.toInt64 0) u b9 v) τ x1, fun k u => (k = 1 ∧ f_R_tell (fun b9 v => lawT Rel 1 (g 0) u b9 v) τ x1)) σ x1
def PT_told (Rel0 Rel : SS → SS → Prop) : Prop := ∀ (σ τ : SS) (x1 : Int32), Rel0 σ τ → f_N_told (fun r u => f_R_told (fun b9 v => r = b9 ∧ Rel u v) τ x1) σ x1
def PT_all (Rel0 Rel : SS → SS → Prop) : Prop := PT_put Rel0 Rel ∧ PT_word Rel0 Rel ∧ PT_set Rel0 Rel ∧ PT_register Rel0 Rel ∧ PT_device Rel0 Rel ∧ PT_tape Rel0 Rel ∧ PT_run Rel0 Rel ∧ PT_why Rel0 Rel ∧ PT_printed Rel0 Rel ∧ PT_tear Rel0 Rel ∧ PT_reset Rel0 Rel ∧ PT_feed Rel0 Rel ∧ PT_end Rel0 Rel ∧ PT_assemble Rel0 Rel ∧ PT_fault Rel0 Rel ∧ PT_label Rel0 Rel ∧ PT_tell Rel0 Rel ∧ PT_told Rel0 Rel
theorem kw_648 : (Jvm.Cond.methodLink "NovaDeskLaw" (54 : Nat) ({ cls := "NovaDeskLaw", name := "put", desc := "(LNovaDesk;II[J)I" } : Jvm.MethodName)) ∈ GW := gw_t (gt_3 (List.mem_of_getElem? (i := 168) rfl)) rfl
theorem kw_649 : (Jvm.Cond.static ({ cls := "NovaDeskLaw", name := "put", desc := "(LNovaDesk;II[J)I" } : Jvm.MethodName)) ∈ GW := gw_t (gt_3 (List.mem_of_getElem? (i := 169) rfl)) rfl
theorem kw_0 : (Jvm.Cond.initialized "NovaDeskLaw") ∈ GW := gw_t (gt_1 (List.mem_of_getElem? (i := 0) rfl)) rfl
theorem kw_650 : (Jvm.Cond.codeWith ({ cls := "NovaDeskLaw", name := "put", desc := "(LNovaDesk;II[J)I" } : Jvm.MethodName) method_3_code (5 : Nat) (Option.some Jvm.ClassFile.FieldType.int) [((0 : Nat), (10 : Nat), (13 : Nat), (13 : Nat))]) ∈ GW := gw_t (gt_3 (List.mem_of_getElem? (i := 170) rfl)) rfl
theorem kw_1220 : (Jvm.Cond.methodLink "NovaDeskLaw" (59 : Nat) ({ cls := "NovaDeskModel", name := "put", desc := "(II)I" } : Jvm.MethodName)) ∈ GW := gw_t (gt_6 (List.mem_of_getElem? (i := 20) rfl)) rfl
theorem kw_1221 : (Jvm.Cond.instanceMethod ({ cls := "NovaDeskModel", name := "put", desc := "(II)I" } : Jvm.MethodName)) ∈ GW := gw_t (gt_6 (List.mem_of_getElem? (i := 21) rfl)) rfl
theorem kw_1222 : (Jvm.Cond.selects "NovaDeskModel" ({ cls := "NovaDeskModel", name := "put", desc := "(II)I" } : Jvm.MethodName) ({ cls := "NovaDeskModel", name := "put", desc := "(II)I" } : Jvm.MethodName)) ∈ GW := gw_t (gt_6 (List.mem_of_getElem? (i := 22) rfl)) rfl
theorem kw_1223 : (Jvm.Cond.code ({ cls := "NovaDeskModel", name := "put", desc := "(II)I" } : Jvm.MethodName) prog_14_method_5_code (4 : Nat) (Option.some Jvm.ClassFile.FieldType.int)) ∈ GW := gw_t (gt_6 (List.mem_of_getElem? (i := 23) rfl)) rfl
theorem kw_1216 : (Jvm.Cond.methodLink "NovaDeskLaw" (60 : Nat) ({ cls := "NovaDeskModel", name := "thrown", desc := "()I" } : Jvm.MethodName)) ∈ GW := gw_t (gt_6 (List.mem_of_getElem? (i := 16) rfl)) rfl
theorem kw_1217 : (Jvm.Cond.instanceMethod ({ cls := "NovaDeskModel", name := "thrown", desc := "()I" } : Jvm.MethodName)) ∈ GW := gw_t (gt_6 (List.mem_of_getElem? (i := 17) rfl)) rfl
theorem kw_1218 : (Jvm.Cond.selects "NovaDeskModel" ({ cls := "NovaDeskModel", name := "thrown", desc := "()I" } : Jvm.MethodName) ({ cls := "NovaDeskModel", name := "thrown", desc := "()I" } : Jvm.MethodName)) ∈ GW := gw_t (gt_6 (List.mem_of_getElem? (i := 18) rfl)) rfl
theorem kw_1219 : (Jvm.Cond.code ({ cls := "NovaDeskModel", name := "thrown", desc := "()I" } : Jvm.MethodName) prog_14_method_2_code (1 : Nat) (Option.some Jvm.ClassFile.FieldType.int)) ∈ GW := gw_t (gt_6 (List.mem_of_getElem? (i := 19) rfl)) rfl
theorem kw_728 : (Jvm.Cond.methodLink "NovaDeskLaw" (64 : Nat) ({ cls := "NovaDeskLaw", name := "word", desc := "(LNovaDesk;I[J)I" } : Jvm.MethodName)) ∈ GW := gw_t (gt_4 (List.mem_of_getElem? (i := 8) rfl)) rfl
theorem kw_729 : (Jvm.Cond.static ({ cls := "NovaDeskLaw", name := "word", desc := "(LNovaDesk;I[J)I" } : Jvm.MethodName)) ∈ GW := gw_t (gt_4 (List.mem_of_getElem? (i := 9) rfl)) rfl
theorem kw_730 : (Jvm.Cond.codeWith ({ cls := "NovaDeskLaw", name := "word", desc := "(LNovaDesk;I[J)I" } : Jvm.MethodName) method_4_code (4 : Nat) (Option.some Jvm.ClassFile.FieldType.int) [((0 : Nat), (9 : Nat), (12 : Nat), (13 : Nat))]) ∈ GW := gw_t (gt_4 (List.mem_of_getElem? (i := 10) rfl)) rfl
theorem kw_1232 : (Jvm.Cond.methodLink "NovaDeskLaw" (67 : Nat) ({ cls := "NovaDeskModel", name := "word", desc := "(I)I" } : Jvm.MethodName)) ∈ GW := gw_t (gt_6 (List.mem_of_getElem? (i := 32) rfl)) rfl
theorem kw_1233 : (Jvm.Cond.instanceMethod ({ cls := "NovaDeskModel", name := "word", desc := "(I)I" } : Jvm.MethodName)) ∈ GW := gw_t (gt_6 (List.mem_of_getElem? (i := 33) rfl)) rfl
theorem kw_1234 : (Jvm.Cond.selects "NovaDeskModel" ({ cls := "NovaDeskModel", name := "word", desc := "(I)I" } : Jvm.MethodName) ({ cls := "NovaDeskModel", name := "word", desc := "(I)I" } : Jvm.MethodName)) ∈ GW := gw_t (gt_6 (List.mem_of_getElem? (i := 34) rfl)) rfl
theorem kw_1235 : (Jvm.Cond.code ({ cls := "NovaDeskModel", name := "word", desc := "(I)I" } : Jvm.MethodName) prog_14_method_6_code (2 : Nat) (Option.some Jvm.ClassFile.FieldType.int)) ∈ GW := gw_t (gt_6 (List.mem_of_getElem? (i := 35) rfl)) rfl
theorem kw_735 : (Jvm.Cond.methodLink "NovaDeskLaw" (68 : Nat) ({ cls := "NovaDeskLaw", name := "set", desc := "(LNovaDesk;II[J)I" } : Jvm.MethodName)) ∈ GW := gw_t (gt_4 (List.mem_of_getElem? (i := 15) rfl)) rfl
theorem kw_736 : (Jvm.Cond.static ({ cls := "NovaDeskLaw", name := "set", desc := "(LNovaDesk;II[J)I" } : Jvm.MethodName)) ∈ GW := gw_t (gt_4 (List.mem_of_getElem? (i := 16) rfl)) rfl
theorem kw_737 : (Jvm.Cond.codeWith ({ cls := "NovaDeskLaw", name := "set", desc := "(LNovaDesk;II[J)I" } : Jvm.MethodName) method_5_code (5 : Nat) (Option.some Jvm.ClassFile.FieldType.int) [((0 : Nat), (10 : Nat), (13 : Nat), (13 : Nat))]) ∈ GW := gw_t (gt_4 (List.mem_of_getElem? (i := 17) rfl)) rfl
theorem kw_1236 : (Jvm.Cond.methodLink "NovaDeskLaw" (70 : Nat) ({ cls := "NovaDeskModel", name := "set", desc := "(II)I" } : Jvm.MethodName)) ∈ GW := gw_t (gt_6 (List.mem_of_getElem? (i := 36) rfl)) rfl
theorem kw_1237 : (Jvm.Cond.instanceMethod ({ cls := "NovaDeskModel", name := "set", desc := "(II)I" } : Jvm.MethodName)) ∈ GW := gw_t (gt_6 (List.mem_of_getElem? (i := 37) rfl)) rfl
theorem kw_1238 : (Jvm.Cond.selects "NovaDeskModel" ({ cls := "NovaDeskModel", name := "set", desc := "(II)I" } : Jvm.MethodName) ({ cls := "NovaDeskModel", name := "set", desc := "(II)I" } : Jvm.MethodName)) ∈ GW := gw_t (gt_6 (List.mem_of_getElem? (i := 38) rfl)) rfl
theorem kw_1239 : (Jvm.Cond.code ({ cls := "NovaDeskModel", name := "set", desc := "(II)I" } : Jvm.MethodName) prog_14_method_8_code (4 : Nat) (Option.some Jvm.ClassFile.FieldType.int)) ∈ GW := gw_t (gt_6 (List.mem_of_getElem? (i := 39) rfl)) rfl
theorem kw_753 : (Jvm.Cond.methodLink "NovaDeskLaw" (71 : Nat) ({ cls := "NovaDeskLaw", name := "register", desc := "(LNovaDesk;I[J)I" } : Jvm.MethodName)) ∈ GW := gw_t (gt_4 (List.mem_of_getElem? (i := 33) rfl)) rfl
theorem kw_754 : (Jvm.Cond.static ({ cls := "NovaDeskLaw", name := "register", desc := "(LNovaDesk;I[J)I" } : Jvm.MethodName)) ∈ GW := gw_t (gt_4 (List.mem_of_getElem? (i := 34) rfl)) rfl
theorem kw_755 : (Jvm.Cond.codeWith ({ cls := "NovaDeskLaw", name := "register", desc := "(LNovaDesk;I[J)I" } : Jvm.MethodName) method_6_code (4 : Nat) (Option.some Jvm.ClassFile.FieldType.int) [((0 : Nat), (9 : Nat), (12 : Nat), (13 : Nat))]) ∈ GW := gw_t (gt_4 (List.mem_of_getElem? (i := 35) rfl)) rfl
theorem kw_1244 : (Jvm.Cond.methodLink "NovaDeskLaw" (73 : Nat) ({ cls := "NovaDeskModel", name := "register", desc := "(I)I" } : Jvm.MethodName)) ∈ GW := gw_t (gt_6 (List.mem_of_getElem? (i := 44) rfl)) rfl
theorem kw_1245 : (Jvm.Cond.instanceMethod ({ cls := "NovaDeskModel", name := "register", desc := "(I)I" } : Jvm.MethodName)) ∈ GW := gw_t (gt_6 (List.mem_of_getElem? (i := 45) rfl)) rfl
theorem kw_1246 : (Jvm.Cond.selects "NovaDeskModel" ({ cls := "NovaDeskModel", name := "register", desc := "(I)I" } : Jvm.MethodName) ({ cls := "NovaDeskModel", name := "register", desc := "(I)I" } : Jvm.MethodName)) ∈ GW := gw_t (gt_6 (List.mem_of_getElem? (i := 46) rfl)) rfl
theorem kw_1247 : (Jvm.Cond.code ({ cls := "NovaDeskModel", name := "register", desc := "(I)I" } : Jvm.MethodName) prog_14_method_9_code (2 : Nat) (Option.some Jvm.ClassFile.FieldType.int)) ∈ GW := gw_t (gt_6 (List.mem_of_getElem? (i := 47) rfl)) rfl
theorem kw_760 : (Jvm.Cond.methodLink "NovaDeskLaw" (74 : Nat) ({ cls := "NovaDeskLaw", name := "device", desc := "(LNovaDesk;II[J)I" } : Jvm.MethodName)) ∈ GW := gw_t (gt_4 (List.mem_of_getElem? (i := 40) rfl)) rfl
theorem kw_761 : (Jvm.Cond.static ({ cls := "NovaDeskLaw", name := "device", desc := "(LNovaDesk;II[J)I" } : Jvm.MethodName)) ∈ GW := gw_t (gt_4 (List.mem_of_getElem? (i := 41) rfl)) rfl
theorem kw_762 : (Jvm.Cond.codeWith ({ cls := "NovaDeskLaw", name := "device", desc := "(LNovaDesk;II[J)I" } : Jvm.MethodName) method_7_code (5 : Nat) (Option.some Jvm.ClassFile.FieldType.int) [((0 : Nat), (10 : Nat), (13 : Nat), (13 : Nat))]) ∈ GW := gw_t (gt_4 (List.mem_of_getElem? (i := 42) rfl)) rfl
theorem kw_1248 : (Jvm.Cond.methodLink "NovaDeskLaw" (76 : Nat) ({ cls := "NovaDeskModel", name := "device", desc := "(II)I" } : Jvm.MethodName)) ∈ GW := gw_t (gt_6 (List.mem_of_getElem? (i := 48) rfl)) rfl
theorem kw_1249 : (Jvm.Cond.instanceMethod ({ cls := "NovaDeskModel", name := "device", desc := "(II)I" } : Jvm.MethodName)) ∈ GW := gw_t (gt_6 (List.mem_of_getElem? (i := 49) rfl)) rfl
theorem kw_1250 : (Jvm.Cond.selects "NovaDeskModel" ({ cls := "NovaDeskModel", name := "device", desc := "(II)I" } : Jvm.MethodName) ({ cls := "NovaDeskModel", name := "device", desc := "(II)I" } : Jvm.MethodName)) ∈ GW := gw_t (gt_6 (List.mem_of_getElem? (i := 50) rfl)) rfl
theorem kw_1251 : (Jvm.Cond.code ({ cls := "NovaDeskModel", name := "device", desc := "(II)I" } : Jvm.MethodName) prog_14_method_10_code (3 : Nat) (Option.some Jvm.ClassFile.FieldType.int)) ∈ GW := gw_t (gt_6 (List.mem_of_getElem? (i := 51) rfl)) rfl
theorem kw_775 : (Jvm.Cond.methodLink "NovaDeskLaw" (77 : Nat) ({ cls := "NovaDeskLaw", name := "tape", desc := "(LNovaDesk;I[J)I" } : Jvm.MethodName)) ∈ GW := gw_t (gt_4 (List.mem_of_getElem? (i := 55) rfl)) rfl
theorem kw_776 : (Jvm.Cond.static ({ cls := "NovaDeskLaw", name := "tape", desc := "(LNovaDesk;I[J)I" } : Jvm.MethodName)) ∈ GW := gw_t (gt_4 (List.mem_of_getElem? (i := 56) rfl)) rfl
theorem kw_777 : (Jvm.Cond.codeWith ({ cls := "NovaDeskLaw", name := "tape", desc := "(LNovaDesk;I[J)I" } : Jvm.MethodName) method_8_code (4 : Nat) (Option.some Jvm.ClassFile.FieldType.int) [((0 : Nat), (9 : Nat), (12 : Nat), (13 : Nat)), ((0 : Nat), (9 : Nat), (15 : Nat), (31 : Nat))]) ∈ GW := gw_t (gt_4 (List.mem_of_getElem? (i := 57) rfl)) rfl
theorem kw_1252 : (Jvm.Cond.methodLink "NovaDeskLaw" (79 : Nat) ({ cls := "NovaDeskModel", name := "tape", desc := "(I)I" } : Jvm.MethodName)) ∈ GW := gw_t (gt_6 (List.mem_of_getElem? (i := 52) rfl)) rfl
theorem kw_1253 : (Jvm.Cond.instanceMethod ({ cls := "NovaDeskModel", name := "tape", desc := "(I)I" } : Jvm.MethodName)) ∈ GW := gw_t (gt_6 (List.mem_of_getElem? (i := 53) rfl)) rfl
theorem kw_1254 : (Jvm.Cond.selects "NovaDeskModel" ({ cls := "NovaDeskModel", name := "tape", desc := "(I)I" } : Jvm.MethodName) ({ cls := "NovaDeskModel", name := "tape", desc := "(I)I" } : Jvm.MethodName)) ∈ GW := gw_t (gt_6 (List.mem_of_getElem? (i := 54) rfl)) rfl
theorem kw_1255 : (Jvm.Cond.code ({ cls := "NovaDeskModel", name := "tape", desc := "(I)I" } : Jvm.MethodName) prog_14_method_11_code (2 : Nat) (Option.some Jvm.ClassFile.FieldType.int)) ∈ GW := gw_t (gt_6 (List.mem_of_getElem? (i := 55) rfl)) rfl
theorem kw_805 : (Jvm.Cond.methodLink "NovaDeskLaw" (80 : Nat) ({ cls := "NovaDeskLaw", name := "run", desc := "(LNovaDesk;I[J)I" } : Jvm.MethodName)) ∈ GW := gw_t (gt_4 (List.mem_of_getElem? (i := 85) rfl)) rfl
theorem kw_806 : (Jvm.Cond.static ({ cls := "NovaDeskLaw", name := "run", desc := "(LNovaDesk;I[J)I" } : Jvm.MethodName)) ∈ GW := gw_t (gt_4 (List.mem_of_getElem? (i := 86) rfl)) rfl
theorem kw_807 : (Jvm.Cond.codeWith ({ cls := "NovaDeskLaw", name := "run", desc := "(LNovaDesk;I[J)I" } : Jvm.MethodName) method_9_code (4 : Nat) (Option.some Jvm.ClassFile.FieldType.int) [((0 : Nat), (9 : Nat), (12 : Nat), (13 : Nat))]) ∈ GW := gw_t (gt_4 (List.mem_of_getElem? (i := 87) rfl)) rfl
theorem kw_1268 : (Jvm.Cond.methodLink "NovaDeskLaw" (82 : Nat) ({ cls := "NovaDeskModel", name := "run", desc := "(I)I" } : Jvm.MethodName)) ∈ GW := gw_t (gt_6 (List.mem_of_getElem? (i := 68) rfl)) rfl
theorem kw_1269 : (Jvm.Cond.instanceMethod ({ cls := "NovaDeskModel", name := "run", desc := "(I)I" } : Jvm.MethodName)) ∈ GW := gw_t (gt_6 (List.mem_of_getElem? (i := 69) rfl)) rfl
theorem kw_1270 : (Jvm.Cond.selects "NovaDeskModel" ({ cls := "NovaDeskModel", name := "run", desc := "(I)I" } : Jvm.MethodName) ({ cls := "NovaDeskModel", name := "run", desc := "(I)I" } : Jvm.MethodName)) ∈ GW := gw_t (gt_6 (List.mem_of_getElem? (i := 70) rfl)) rfl
theorem kw_1271 : (Jvm.Cond.code ({ cls := "NovaDeskModel", name := "run", desc := "(I)I" } : Jvm.MethodName) prog_14_method_24_code (3 : Nat) (Option.some Jvm.ClassFile.FieldType.int)) ∈ GW := gw_t (gt_6 (List.mem_of_getElem? (i := 71) rfl)) rfl
theorem kw_286 : (Jvm.Cond.methodLink "NovaDeskLaw" (83 : Nat) ({ cls := "NovaDesk", name := "why", desc := "()I" } : Jvm.MethodName)) ∈ GW := gw_t (gt_2 (List.mem_of_getElem? (i := 46) rfl)) rfl
theorem kw_287 : (Jvm.Cond.instanceMethod ({ cls := "NovaDesk", name := "why", desc := "()I" } : Jvm.MethodName)) ∈ GW := gw_t (gt_2 (List.mem_of_getElem? (i := 47) rfl)) rfl
theorem kw_288 : (Jvm.Cond.selects "NovaDesk" ({ cls := "NovaDesk", name := "why", desc := "()I" } : Jvm.MethodName) ({ cls := "NovaDesk", name := "why", desc := "()I" } : Jvm.MethodName)) ∈ GW := gw_t (gt_2 (List.mem_of_getElem? (i := 48) rfl)) rfl
theorem kw_289 : (Jvm.Cond.code ({ cls := "NovaDesk", name := "why", desc := "()I" } : Jvm.MethodName) prog_1_method_9_code (1 : Nat) (Option.some Jvm.ClassFile.FieldType.int)) ∈ GW := gw_t (gt_2 (List.mem_of_getElem? (i := 49) rfl)) rfl
theorem kw_1310 : (Jvm.Cond.methodLink "NovaDeskLaw" (86 : Nat) ({ cls := "NovaDeskModel", name := "why", desc := "()I" } : Jvm.MethodName)) ∈ GW := gw_t (gt_6 (List.mem_of_getElem? (i := 110) rfl)) rfl
theorem kw_1311 : (Jvm.Cond.instanceMethod ({ cls := "NovaDeskModel", name := "why", desc := "()I" } : Jvm.MethodName)) ∈ GW := gw_t (gt_6 (List.mem_of_getElem? (i := 111) rfl)) rfl
theorem kw_1312 : (Jvm.Cond.selects "NovaDeskModel" ({ cls := "NovaDeskModel", name := "why", desc := "()I" } : Jvm.MethodName) ({ cls := "NovaDeskModel", name := "why", desc := "()I" } : Jvm.MethodName)) ∈ GW := gw_t (gt_6 (List.mem_of_getElem? (i := 112) rfl)) rfl
theorem kw_1313 : (Jvm.Cond.code ({ cls := "NovaDeskModel", name := "why", desc := "()I" } : Jvm.MethodName) prog_14_method_25_code (1 : Nat) (Option.some Jvm.ClassFile.FieldType.int)) ∈ GW := gw_t (gt_6 (List.mem_of_getElem? (i := 113) rfl)) rfl
theorem kw_290 : (Jvm.Cond.methodLink "NovaDeskLaw" (87 : Nat) ({ cls := "NovaDesk", name := "printed", desc := "(I)I" } : Jvm.MethodName)) ∈ GW := gw_t (gt_2 (List.mem_of_getElem? (i := 50) rfl)) rfl
theorem kw_291 : (Jvm.Cond.instanceMethod ({ cls := "NovaDesk", name := "printed", desc := "(I)I" } : Jvm.MethodName)) ∈ GW := gw_t (gt_2 (List.mem_of_getElem? (i := 51) rfl)) rfl
theorem kw_292 : (Jvm.Cond.selects "NovaDesk" ({ cls := "NovaDesk", name := "printed", desc := "(I)I" } : Jvm.MethodName) ({ cls := "NovaDesk", name := "printed", desc := "(I)I" } : Jvm.MethodName)) ∈ GW := gw_t (gt_2 (List.mem_of_getElem? (i := 52) rfl)) rfl
theorem kw_293 : (Jvm.Cond.code ({ cls := "NovaDesk", name := "printed", desc := "(I)I" } : Jvm.MethodName) prog_1_method_10_code (2 : Nat) (Option.some Jvm.ClassFile.FieldType.int)) ∈ GW := gw_t (gt_2 (List.mem_of_getElem? (i := 53) rfl)) rfl
theorem kw_1256 : (Jvm.Cond.methodLink "NovaDeskLaw" (90 : Nat) ({ cls := "NovaDeskModel", name := "printed", desc := "(I)I" } : Jvm.MethodName)) ∈ GW := gw_t (gt_6 (List.mem_of_getElem? (i := 56) rfl)) rfl
theorem kw_1257 : (Jvm.Cond.instanceMethod ({ cls := "NovaDeskModel", name := "printed", desc := "(I)I" } : Jvm.MethodName)) ∈ GW := gw_t (gt_6 (List.mem_of_getElem? (i := 57) rfl)) rfl
theorem kw_1258 : (Jvm.Cond.selects "NovaDeskModel" ({ cls := "NovaDeskModel", name := "printed", desc := "(I)I" } : Jvm.MethodName) ({ cls := "NovaDeskModel", name := "printed", desc := "(I)I" } : Jvm.MethodName)) ∈ GW := gw_t (gt_6 (List.mem_of_getElem? (i := 58) rfl)) rfl
theorem kw_1259 : (Jvm.Cond.code ({ cls := "NovaDeskModel", name := "printed", desc := "(I)I" } : Jvm.MethodName) prog_14_method_12_code (2 : Nat) (Option.some Jvm.ClassFile.FieldType.int)) ∈ GW := gw_t (gt_6 (List.mem_of_getElem? (i := 59) rfl)) rfl
theorem kw_298 : (Jvm.Cond.methodLink "NovaDeskLaw" (91 : Nat) ({ cls := "NovaDesk", name := "tear", desc := "()I" } : Jvm.MethodName)) ∈ GW := gw_t (gt_2 (List.mem_of_getElem? (i := 58) rfl)) rfl
theorem kw_299 : (Jvm.Cond.instanceMethod ({ cls := "NovaDesk", name := "tear", desc := "()I" } : Jvm.MethodName)) ∈ GW := gw_t (gt_2 (List.mem_of_getElem? (i := 59) rfl)) rfl
theorem kw_300 : (Jvm.Cond.selects "NovaDesk" ({ cls := "NovaDesk", name := "tear", desc := "()I" } : Jvm.MethodName) ({ cls := "NovaDesk", name := "tear", desc := "()I" } : Jvm.MethodName)) ∈ GW := gw_t (gt_2 (List.mem_of_getElem? (i := 60) rfl)) rfl
theorem kw_301 : (Jvm.Cond.code ({ cls := "NovaDesk", name := "tear", desc := "()I" } : Jvm.MethodName) prog_1_method_11_code (1 : Nat) (Option.some Jvm.ClassFile.FieldType.int)) ∈ GW := gw_t (gt_2 (List.mem_of_getElem? (i := 61) rfl)) rfl
theorem kw_1260 : (Jvm.Cond.methodLink "NovaDeskLaw" (94 : Nat) ({ cls := "NovaDeskModel", name := "tear", desc := "()I" } : Jvm.MethodName)) ∈ GW := gw_t (gt_6 (List.mem_of_getElem? (i := 60) rfl)) rfl
theorem kw_1261 : (Jvm.Cond.instanceMethod ({ cls := "NovaDeskModel", name := "tear", desc := "()I" } : Jvm.MethodName)) ∈ GW := gw_t (gt_6 (List.mem_of_getElem? (i := 61) rfl)) rfl
theorem kw_1262 : (Jvm.Cond.selects "NovaDeskModel" ({ cls := "NovaDeskModel", name := "tear", desc := "()I" } : Jvm.MethodName) ({ cls := "NovaDeskModel", name := "tear", desc := "()I" } : Jvm.MethodName)) ∈ GW := gw_t (gt_6 (List.mem_of_getElem? (i := 62) rfl)) rfl
theorem kw_1263 : (Jvm.Cond.code ({ cls := "NovaDeskModel", name := "tear", desc := "()I" } : Jvm.MethodName) prog_14_method_13_code (2 : Nat) (Option.some Jvm.ClassFile.FieldType.int)) ∈ GW := gw_t (gt_6 (List.mem_of_getElem? (i := 63) rfl)) rfl
theorem kw_306 : (Jvm.Cond.methodLink "NovaDeskLaw" (95 : Nat) ({ cls := "NovaDesk", name := "reset", desc := "()V" } : Jvm.MethodName)) ∈ GW := gw_t (gt_2 (List.mem_of_getElem? (i := 66) rfl)) rfl
theorem kw_307 : (Jvm.Cond.instanceMethod ({ cls := "NovaDesk", name := "reset", desc := "()V" } : Jvm.MethodName)) ∈ GW := gw_t (gt_2 (List.mem_of_getElem? (i := 67) rfl)) rfl
theorem kw_308 : (Jvm.Cond.selects "NovaDesk" ({ cls := "NovaDesk", name := "reset", desc := "()V" } : Jvm.MethodName) ({ cls := "NovaDesk", name := "reset", desc := "()V" } : Jvm.MethodName)) ∈ GW := gw_t (gt_2 (List.mem_of_getElem? (i := 68) rfl)) rfl
theorem kw_309 : (Jvm.Cond.code ({ cls := "NovaDesk", name := "reset", desc := "()V" } : Jvm.MethodName) prog_1_method_12_code (1 : Nat) (Option.none : Option Jvm.ClassFile.FieldType)) ∈ GW := gw_t (gt_2 (List.mem_of_getElem? (i := 69) rfl)) rfl
theorem kw_1264 : (Jvm.Cond.methodLink "NovaDeskLaw" (98 : Nat) ({ cls := "NovaDeskModel", name := "reset", desc := "()V" } : Jvm.MethodName)) ∈ GW := gw_t (gt_6 (List.mem_of_getElem? (i := 64) rfl)) rfl
theorem kw_1265 : (Jvm.Cond.instanceMethod ({ cls := "NovaDeskModel", name := "reset", desc := "()V" } : Jvm.MethodName)) ∈ GW := gw_t (gt_6 (List.mem_of_getElem? (i := 65) rfl)) rfl
theorem kw_1266 : (Jvm.Cond.selects "NovaDeskModel" ({ cls := "NovaDeskModel", name := "reset", desc := "()V" } : Jvm.MethodName) ({ cls := "NovaDeskModel", name := "reset", desc := "()V" } : Jvm.MethodName)) ∈ GW := gw_t (gt_6 (List.mem_of_getElem? (i := 66) rfl)) rfl
theorem kw_1267 : (Jvm.Cond.code ({ cls := "NovaDeskModel", name := "reset", desc := "()V" } : Jvm.MethodName) prog_14_method_14_code (2 : Nat) (Option.none : Option Jvm.ClassFile.FieldType)) ∈ GW := gw_t (gt_6 (List.mem_of_getElem? (i := 67) rfl)) rfl
theorem kw_964 : (Jvm.Cond.methodLink "NovaDeskLaw" (99 : Nat) ({ cls := "NovaDeskLaw", name := "feed", desc := "(LNovaDesk;IIIII[J)I" } : Jvm.MethodName)) ∈ GW := gw_t (gt_5 (List.mem_of_getElem? (i := 4) rfl)) rfl
theorem kw_965 : (Jvm.Cond.static ({ cls := "NovaDeskLaw", name := "feed", desc := "(LNovaDesk;IIIII[J)I" } : Jvm.MethodName)) ∈ GW := gw_t (gt_5 (List.mem_of_getElem? (i := 5) rfl)) rfl
theorem kw_966 : (Jvm.Cond.codeWith ({ cls := "NovaDeskLaw", name := "feed", desc := "(LNovaDesk;IIIII[J)I" } : Jvm.MethodName) method_10_code (8 : Nat) (Option.some Jvm.ClassFile.FieldType.int) [((0 : Nat), (16 : Nat), (19 : Nat), (31 : Nat))]) ∈ GW := gw_t (gt_5 (List.mem_of_getElem? (i := 6) rfl)) rfl
theorem kw_1314 : (Jvm.Cond.methodLink "NovaDeskLaw" (102 : Nat) ({ cls := "NovaDeskModel", name := "feed", desc := "(IIIII)I" } : Jvm.MethodName)) ∈ GW := gw_t (gt_6 (List.mem_of_getElem? (i := 114) rfl)) rfl
theorem kw_1315 : (Jvm.Cond.instanceMethod ({ cls := "NovaDeskModel", name := "feed", desc := "(IIIII)I" } : Jvm.MethodName)) ∈ GW := gw_t (gt_6 (List.mem_of_getElem? (i := 115) rfl)) rfl
theorem kw_1316 : (Jvm.Cond.selects "NovaDeskModel" ({ cls := "NovaDeskModel", name := "feed", desc := "(IIIII)I" } : Jvm.MethodName) ({ cls := "NovaDeskModel", name := "feed", desc := "(IIIII)I" } : Jvm.MethodName)) ∈ GW := gw_t (gt_6 (List.mem_of_getElem? (i := 116) rfl)) rfl
theorem kw_1317 : (Jvm.Cond.code ({ cls := "NovaDeskModel", name := "feed", desc := "(IIIII)I" } : Jvm.MethodName) prog_14_method_26_code (8 : Nat) (Option.some Jvm.ClassFile.FieldType.int)) ∈ GW := gw_t (gt_6 (List.mem_of_getElem? (i := 117) rfl)) rfl
theorem kw_975 : (Jvm.Cond.methodLink "NovaDeskLaw" (103 : Nat) ({ cls := "NovaDeskLaw", name := "end", desc := "(LNovaDesk;I)I" } : Jvm.MethodName)) ∈ GW := gw_t (gt_5 (List.mem_of_getElem? (i := 15) rfl)) rfl
theorem kw_976 : (Jvm.Cond.static ({ cls := "NovaDeskLaw", name := "end", desc := "(LNovaDesk;I)I" } : Jvm.MethodName)) ∈ GW := gw_t (gt_5 (List.mem_of_getElem? (i := 16) rfl)) rfl
theorem kw_977 : (Jvm.Cond.codeWith ({ cls := "NovaDeskLaw", name := "end", desc := "(LNovaDesk;I)I" } : Jvm.MethodName) method_11_code (3 : Nat) (Option.some Jvm.ClassFile.FieldType.int) [((0 : Nat), (5 : Nat), (8 : Nat), (13 : Nat))]) ∈ GW := gw_t (gt_5 (List.mem_of_getElem? (i := 17) rfl)) rfl
theorem kw_1318 : (Jvm.Cond.methodLink "NovaDeskLaw" (106 : Nat) ({ cls := "NovaDeskModel", name := "end", desc := "(I)V" } : Jvm.MethodName)) ∈ GW := gw_t (gt_6 (List.mem_of_getElem? (i := 118) rfl)) rfl
theorem kw_1319 : (Jvm.Cond.instanceMethod ({ cls := "NovaDeskModel", name := "end", desc := "(I)V" } : Jvm.MethodName)) ∈ GW := gw_t (gt_6 (List.mem_of_getElem? (i := 119) rfl)) rfl
theorem kw_1320 : (Jvm.Cond.selects "NovaDeskModel" ({ cls := "NovaDeskModel", name := "end", desc := "(I)V" } : Jvm.MethodName) ({ cls := "NovaDeskModel", name := "end", desc := "(I)V" } : Jvm.MethodName)) ∈ GW := gw_t (gt_6 (List.mem_of_getElem? (i := 120) rfl)) rfl
theorem kw_1321 : (Jvm.Cond.code ({ cls := "NovaDeskModel", name := "end", desc := "(I)V" } : Jvm.MethodName) prog_14_method_27_code (2 : Nat) (Option.none : Option Jvm.ClassFile.FieldType)) ∈ GW := gw_t (gt_6 (List.mem_of_getElem? (i := 121) rfl)) rfl
theorem kw_346 : (Jvm.Cond.methodLink "NovaDeskLaw" (107 : Nat) ({ cls := "NovaDesk", name := "assemble", desc := "()I" } : Jvm.MethodName)) ∈ GW := gw_t (gt_2 (List.mem_of_getElem? (i := 106) rfl)) rfl
theorem kw_347 : (Jvm.Cond.instanceMethod ({ cls := "NovaDesk", name := "assemble", desc := "()I" } : Jvm.MethodName)) ∈ GW := gw_t (gt_2 (List.mem_of_getElem? (i := 107) rfl)) rfl
theorem kw_348 : (Jvm.Cond.selects "NovaDesk" ({ cls := "NovaDesk", name := "assemble", desc := "()I" } : Jvm.MethodName) ({ cls := "NovaDesk", name := "assemble", desc := "()I" } : Jvm.MethodName)) ∈ GW := gw_t (gt_2 (List.mem_of_getElem? (i := 108) rfl)) rfl
theorem kw_349 : (Jvm.Cond.code ({ cls := "NovaDesk", name := "assemble", desc := "()I" } : Jvm.MethodName) prog_1_method_15_code (1 : Nat) (Option.some Jvm.ClassFile.FieldType.int)) ∈ GW := gw_t (gt_2 (List.mem_of_getElem? (i := 109) rfl)) rfl
theorem kw_1322 : (Jvm.Cond.methodLink "NovaDeskLaw" (110 : Nat) ({ cls := "NovaDeskModel", name := "assemble", desc := "()I" } : Jvm.MethodName)) ∈ GW := gw_t (gt_6 (List.mem_of_getElem? (i := 122) rfl)) rfl
theorem kw_1323 : (Jvm.Cond.instanceMethod ({ cls := "NovaDeskModel", name := "assemble", desc := "()I" } : Jvm.MethodName)) ∈ GW := gw_t (gt_6 (List.mem_of_getElem? (i := 123) rfl)) rfl
theorem kw_1324 : (Jvm.Cond.selects "NovaDeskModel" ({ cls := "NovaDeskModel", name := "assemble", desc := "()I" } : Jvm.MethodName) ({ cls := "NovaDeskModel", name := "assemble", desc := "()I" } : Jvm.MethodName)) ∈ GW := gw_t (gt_6 (List.mem_of_getElem? (i := 124) rfl)) rfl
theorem kw_1325 : (Jvm.Cond.code ({ cls := "NovaDeskModel", name := "assemble", desc := "()I" } : Jvm.MethodName) prog_14_method_61_code (2 : Nat) (Option.some Jvm.ClassFile.FieldType.int)) ∈ GW := gw_t (gt_6 (List.mem_of_getElem? (i := 125) rfl)) rfl
theorem kw_982 : (Jvm.Cond.methodLink "NovaDeskLaw" (111 : Nat) ({ cls := "NovaDeskLaw", name := "fault", desc := "(LNovaDesk;I[J)I" } : Jvm.MethodName)) ∈ GW := gw_t (gt_5 (List.mem_of_getElem? (i := 22) rfl)) rfl
theorem kw_983 : (Jvm.Cond.static ({ cls := "NovaDeskLaw", name := "fault", desc := "(LNovaDesk;I[J)I" } : Jvm.MethodName)) ∈ GW := gw_t (gt_5 (List.mem_of_getElem? (i := 23) rfl)) rfl
theorem kw_984 : (Jvm.Cond.codeWith ({ cls := "NovaDeskLaw", name := "fault", desc := "(LNovaDesk;I[J)I" } : Jvm.MethodName) method_12_code (4 : Nat) (Option.some Jvm.ClassFile.FieldType.int) [((0 : Nat), (9 : Nat), (12 : Nat), (13 : Nat))]) ∈ GW := gw_t (gt_5 (List.mem_of_getElem? (i := 24) rfl)) rfl
theorem kw_1495 : (Jvm.Cond.methodLink "NovaDeskLaw" (113 : Nat) ({ cls := "NovaDeskModel", name := "fault", desc := "(I)I" } : Jvm.MethodName)) ∈ GW := gw_t (gt_7 (List.mem_of_getElem? (i := 55) rfl)) rfl
theorem kw_1496 : (Jvm.Cond.instanceMethod ({ cls := "NovaDeskModel", name := "fault", desc := "(I)I" } : Jvm.MethodName)) ∈ GW := gw_t (gt_7 (List.mem_of_getElem? (i := 56) rfl)) rfl
theorem kw_1497 : (Jvm.Cond.selects "NovaDeskModel" ({ cls := "NovaDeskModel", name := "fault", desc := "(I)I" } : Jvm.MethodName) ({ cls := "NovaDeskModel", name := "fault", desc := "(I)I" } : Jvm.MethodName)) ∈ GW := gw_t (gt_7 (List.mem_of_getElem? (i := 57) rfl)) rfl
theorem kw_1498 : (Jvm.Cond.code ({ cls := "NovaDeskModel", name := "fault", desc := "(I)I" } : Jvm.MethodName) prog_14_method_62_code (2 : Nat) (Option.some Jvm.ClassFile.FieldType.int)) ∈ GW := gw_t (gt_7 (List.mem_of_getElem? (i := 58) rfl)) rfl
theorem kw_634 : (Jvm.Cond.methodLink "NovaDeskLaw" (114 : Nat) ({ cls := "NovaDesk", name := "label", desc := "(II)I" } : Jvm.MethodName)) ∈ GW := gw_t (gt_3 (List.mem_of_getElem? (i := 154) rfl)) rfl
theorem kw_635 : (Jvm.Cond.instanceMethod ({ cls := "NovaDesk", name := "label", desc := "(II)I" } : Jvm.MethodName)) ∈ GW := gw_t (gt_3 (List.mem_of_getElem? (i := 155) rfl)) rfl
theorem kw_636 : (Jvm.Cond.selects "NovaDesk" ({ cls := "NovaDesk", name := "label", desc := "(II)I" } : Jvm.MethodName) ({ cls := "NovaDesk", name := "label", desc := "(II)I" } : Jvm.MethodName)) ∈ GW := gw_t (gt_3 (List.mem_of_getElem? (i := 156) rfl)) rfl
theorem kw_637 : (Jvm.Cond.code ({ cls := "NovaDesk", name := "label", desc := "(II)I" } : Jvm.MethodName) prog_1_method_17_code (3 : Nat) (Option.some Jvm.ClassFile.FieldType.int)) ∈ GW := gw_t (gt_3 (List.mem_of_getElem? (i := 157) rfl)) rfl
theorem kw_1499 : (Jvm.Cond.methodLink "NovaDeskLaw" (117 : Nat) ({ cls := "NovaDeskModel", name := "label", desc := "(II)I" } : Jvm.MethodName)) ∈ GW := gw_t (gt_7 (List.mem_of_getElem? (i := 59) rfl)) rfl
theorem kw_1500 : (Jvm.Cond.instanceMethod ({ cls := "NovaDeskModel", name := "label", desc := "(II)I" } : Jvm.MethodName)) ∈ GW := gw_t (gt_7 (List.mem_of_getElem? (i := 60) rfl)) rfl
theorem kw_1501 : (Jvm.Cond.selects "NovaDeskModel" ({ cls := "NovaDeskModel", name := "label", desc := "(II)I" } : Jvm.MethodName) ({ cls := "NovaDeskModel", name := "label", desc := "(II)I" } : Jvm.MethodName)) ∈ GW := gw_t (gt_7 (List.mem_of_getElem? (i := 61) rfl)) rfl
theorem kw_1502 : (Jvm.Cond.code ({ cls := "NovaDeskModel", name := "label", desc := "(II)I" } : Jvm.MethodName) prog_14_method_63_code (6 : Nat) (Option.some Jvm.ClassFile.FieldType.int)) ∈ GW := gw_t (gt_7 (List.mem_of_getElem? (i := 62) rfl)) rfl
theorem kw_989 : (Jvm.Cond.methodLink "NovaDeskLaw" (118 : Nat) ({ cls := "NovaDeskLaw", name := "tell", desc := "(LNovaDesk;I[J)I" } : Jvm.MethodName)) ∈ GW := gw_t (gt_5 (List.mem_of_getElem? (i := 29) rfl)) rfl
theorem kw_990 : (Jvm.Cond.static ({ cls := "NovaDeskLaw", name := "tell", desc := "(LNovaDesk;I[J)I" } : Jvm.MethodName)) ∈ GW := gw_t (gt_5 (List.mem_of_getElem? (i := 30) rfl)) rfl
theorem kw_991 : (Jvm.Cond.codeWith ({ cls := "NovaDeskLaw", name := "tell", desc := "(LNovaDesk;I[J)I" } : Jvm.MethodName) method_13_code (4 : Nat) (Option.some Jvm.ClassFile.FieldType.int) [((0 : Nat), (9 : Nat), (12 : Nat), (13 : Nat))]) ∈ GW := gw_t (gt_5 (List.mem_of_getElem? (i := 31) rfl)) rfl
theorem kw_1504 : (Jvm.Cond.methodLink "NovaDeskLaw" (120 : Nat) ({ cls := "NovaDeskModel", name := "tell", desc := "(I)I" } : Jvm.MethodName)) ∈ GW := gw_t (gt_7 (List.mem_of_getElem? (i := 64) rfl)) rfl
theorem kw_1505 : (Jvm.Cond.instanceMethod ({ cls := "NovaDeskModel", name := "tell", desc := "(I)I" } : Jvm.MethodName)) ∈ GW := gw_t (gt_7 (List.mem_of_getElem? (i := 65) rfl)) rfl
theorem kw_1506 : (Jvm.Cond.selects "NovaDeskModel" ({ cls := "NovaDeskModel", name := "tell", desc := "(I)I" } : Jvm.MethodName) ({ cls := "NovaDeskModel", name := "tell", desc := "(I)I" } : Jvm.MethodName)) ∈ GW := gw_t (gt_7 (List.mem_of_getElem? (i := 66) rfl)) rfl
theorem kw_1507 : (Jvm.Cond.code ({ cls := "NovaDeskModel", name := "tell", desc := "(I)I" } : Jvm.MethodName) prog_14_method_73_code (5 : Nat) (Option.some Jvm.ClassFile.FieldType.int)) ∈ GW := gw_t (gt_7 (List.mem_of_getElem? (i := 67) rfl)) rfl
theorem kw_640 : (Jvm.Cond.methodLink "NovaDeskLaw" (121 : Nat) ({ cls := "NovaDesk", name := "told", desc := "(I)I" } : Jvm.MethodName)) ∈ GW := gw_t (gt_3 (List.mem_of_getElem? (i := 160) rfl)) rfl
theorem kw_641 : (Jvm.Cond.instanceMethod ({ cls := "NovaDesk", name := "told", desc := "(I)I" } : Jvm.MethodName)) ∈ GW := gw_t (gt_3 (List.mem_of_getElem? (i := 161) rfl)) rfl
theorem kw_642 : (Jvm.Cond.selects "NovaDesk" ({ cls := "NovaDesk", name := "told", desc := "(I)I" } : Jvm.MethodName) ({ cls := "NovaDesk", name := "told", desc := "(I)I" } : Jvm.MethodName)) ∈ GW := gw_t (gt_3 (List.mem_of_getElem? (i := 162) rfl)) rfl
theorem kw_643 : (Jvm.Cond.code ({ cls := "NovaDesk", name := "told", desc := "(I)I" } : Jvm.MethodName) prog_1_method_19_code (2 : Nat) (Option.some Jvm.ClassFile.FieldType.int)) ∈ GW := gw_t (gt_3 (List.mem_of_getElem? (i := 163) rfl)) rfl
theorem kw_1542 : (Jvm.Cond.methodLink "NovaDeskLaw" (124 : Nat) ({ cls := "NovaDeskModel", name := "told", desc := "(I)I" } : Jvm.MethodName)) ∈ GW := gw_t (gt_7 (List.mem_of_getElem? (i := 102) rfl)) rfl
theorem kw_1543 : (Jvm.Cond.instanceMethod ({ cls := "NovaDeskModel", name := "told", desc := "(I)I" } : Jvm.MethodName)) ∈ GW := gw_t (gt_7 (List.mem_of_getElem? (i := 103) rfl)) rfl
theorem kw_1544 : (Jvm.Cond.selects "NovaDeskModel" ({ cls := "NovaDeskModel", name := "told", desc := "(I)I" } : Jvm.MethodName) ({ cls := "NovaDeskModel", name := "told", desc := "(I)I" } : Jvm.MethodName)) ∈ GW := gw_t (gt_7 (List.mem_of_getElem? (i := 104) rfl)) rfl
theorem kw_1545 : (Jvm.Cond.code ({ cls := "NovaDeskModel", name := "told", desc := "(I)I" } : Jvm.MethodName) prog_14_method_74_code (2 : Nat) (Option.some Jvm.ClassFile.FieldType.int)) ∈ GW := gw_t (gt_7 (List.mem_of_getElem? (i := 105) rfl)) rfl
theorem cw_law_59 : CVW "NovaDeskLaw" 59 "NovaDeskModel" y_R_put b_R_put 4 ((Option.some Jvm.ClassFile.FieldType.int)) 2 := cvw kw_1220 kw_1221 kw_1222 kw_11 kw_1223 (by decide +kernel)
theorem cw_law_60 : CVW "NovaDeskLaw" 60 "NovaDeskModel" y_R_thrown b_R_thrown 1 ((Option.some Jvm.ClassFile.FieldType.int)) 0 := cvw kw_1216 kw_1217 kw_1218 kw_11 kw_1219 (by decide +kernel)
theorem cw_law_67 : CVW "NovaDeskLaw" 67 "NovaDeskModel" y_R_word b_R_word 2 ((Option.some Jvm.ClassFile.FieldType.int)) 1 := cvw kw_1232 kw_1233 kw_1234 kw_11 kw_1235 (by decide +kernel)
theorem cw_law_70 : CVW "NovaDeskLaw" 70 "NovaDeskModel" y_R_set b_R_set 4 ((Option.some Jvm.ClassFile.FieldType.int)) 2 := cvw kw_1236 kw_1237 kw_1238 kw_11 kw_1239 (by decide +kernel)
theorem cw_law_73 : CVW "NovaDeskLaw" 73 "NovaDeskModel" y_R_register b_R_register 2 ((Option.some Jvm.ClassFile.FieldType.int)) 1 := cvw kw_1244 kw_1245 kw_1246 kw_11 kw_1247 (by decide +kernel)
theorem cw_law_76 : CVW "NovaDeskLaw" 76 "NovaDeskModel" y_R_device b_R_device 3 ((Option.some Jvm.ClassFile.FieldType.int)) 2 := cvw kw_1248 kw_1249 kw_1250 kw_11 kw_1251 (by decide +kernel)
theorem cw_law_79 : CVW "NovaDeskLaw" 79 "NovaDeskModel" y_R_tape b_R_tape 2 ((Option.some Jvm.ClassFile.FieldType.int)) 1 := cvw kw_1252 kw_1253 kw_1254 kw_11 kw_1255 (by decide +kernel)
theorem cw_law_82 : CVW "NovaDeskLaw" 82 "NovaDeskModel" y_R_run b_R_run 3 ((Option.some Jvm.ClassFile.FieldType.int)) 1 := cvw kw_1268 kw_1269 kw_1270 kw_11 kw_1271 (by decide +kernel)
theorem cw_law_83 : CVW "NovaDeskLaw" 83 "NovaDesk" y_N_why b_N_why 1 ((Option.some Jvm.ClassFile.FieldType.int)) 0 := cvw kw_286 kw_287 kw_288 kw_1 kw_289 (by decide +kernel)
theorem cw_law_86 : CVW "NovaDeskLaw" 86 "NovaDeskModel" y_R_why b_R_why 1 ((Option.some Jvm.ClassFile.FieldType.int)) 0 := cvw kw_1310 kw_1311 kw_1312 kw_11 kw_1313 (by decide +kernel)
theorem cw_law_87 : CVW "NovaDeskLaw" 87 "NovaDesk" y_N_printed b_N_printed 2 ((Option.some Jvm.ClassFile.FieldType.int)) 1 := cvw kw_290 kw_291 kw_292 kw_1 kw_293 (by decide +kernel)
theorem cw_law_90 : CVW "NovaDeskLaw" 90 "NovaDeskModel" y_R_printed b_R_printed 2 ((Option.some Jvm.ClassFile.FieldType.int)) 1 := cvw kw_1256 kw_1257 kw_1258 kw_11 kw_1259 (by decide +kernel)
theorem cw_law_91 : CVW "NovaDeskLaw" 91 "NovaDesk" y_N_tear b_N_tear 1 ((Option.some Jvm.ClassFile.FieldType.int)) 0 := cvw kw_298 kw_299 kw_300 kw_1 kw_301 (by decide +kernel)
theorem cw_law_94 : CVW "NovaDeskLaw" 94 "NovaDeskModel" y_R_tear b_R_tear 2 ((Option.some Jvm.ClassFile.FieldType.int)) 0 := cvw kw_1260 kw_1261 kw_1262 kw_11 kw_1263 (by decide +kernel)
theorem cw_law_95 : CVW "NovaDeskLaw" 95 "NovaDesk" y_N_reset b_N_reset 1 ((Option.none : Option Jvm.ClassFile.FieldType)) 0 := cvw kw_306 kw_307 kw_308 kw_1 kw_309 (by decide +kernel)
theorem cw_law_98 : CVW "NovaDeskLaw" 98 "NovaDeskModel" y_R_reset b_R_reset 2 ((Option.none : Option Jvm.ClassFile.FieldType)) 0 := cvw kw_1264 kw_1265 kw_1266 kw_11 kw_1267 (by decide +kernel)
theorem cw_law_102 : CVW "NovaDeskLaw" 102 "NovaDeskModel" y_R_feed b_R_feed 8 ((Option.some Jvm.ClassFile.FieldType.int)) 5 := cvw kw_1314 kw_1315 kw_1316 kw_11 kw_1317 (by decide +kernel)
theorem cw_law_106 : CVW "NovaDeskLaw" 106 "NovaDeskModel" y_R_end b_R_end 2 ((Option.none : Option Jvm.ClassFile.FieldType)) 1 := cvw kw_1318 kw_1319 kw_1320 kw_11 kw_1321 (by decide +kernel)
theorem cw_law_107 : CVW "NovaDeskLaw" 107 "NovaDesk" y_N_assemble b_N_assemble 1 ((Option.some Jvm.ClassFile.FieldType.int)) 0 := cvw kw_346 kw_347 kw_348 kw_1 kw_349 (by decide +kernel)
theorem cw_law_110 : CVW "NovaDeskLaw" 110 "NovaDeskModel" y_R_assemble b_R_assemble 2 ((Option.some Jvm.ClassFile.FieldType.int)) 0 := cvw kw_1322 kw_1323 kw_1324 kw_11 kw_1325 (by decide +kernel)
theorem cw_law_113 : CVW "NovaDeskLaw" 113 "NovaDeskModel" y_R_fault b_R_fault 2 ((Option.some Jvm.ClassFile.FieldType.int)) 1 := cvw kw_1495 kw_1496 kw_1497 kw_11 kw_1498 (by decide +kernel)
theorem cw_law_114 : CVW "NovaDeskLaw" 114 "NovaDesk" y_N_label b_N_label 3 ((Option.some Jvm.ClassFile.FieldType.int)) 2 := cvw kw_634 kw_635 kw_636 kw_1 kw_637 (by decide +kernel)
theorem cw_law_117 : CVW "NovaDeskLaw" 117 "NovaDeskModel" y_R_label b_R_label 6 ((Option.some Jvm.ClassFile.FieldType.int)) 2 := cvw kw_1499 kw_1500 kw_1501 kw_11 kw_1502 (by decide +kernel)
theorem cw_law_120 : CVW "NovaDeskLaw" 120 "NovaDeskModel" y_R_tell b_R_tell 5 ((Option.some Jvm.ClassFile.FieldType.int)) 1 := cvw kw_1504 kw_1505 kw_1506 kw_11 kw_1507 (by decide +kernel)
theorem cw_law_121 : CVW "NovaDeskLaw" 121 "NovaDesk" y_N_told b_N_told 2 ((Option.some Jvm.ClassFile.FieldType.int)) 1 := cvw kw_640 kw_641 kw_642 kw_1 kw_643 (by decide +kernel)
theorem cw_law_124 : CVW "NovaDeskLaw" 124 "NovaDeskModel" y_R_told b_R_told 2 ((Option.some Jvm.ClassFile.FieldType.int)) 1 := cvw kw_1542 kw_1543 kw_1544 kw_11 kw_1545 (by decide +kernel)
theorem d_law_0 : decode code 0 = .ok (.new 8, 3) := by decide +kernel
theorem d_law_3 : decode code 3 = .ok (.dup, 1) := by decide +kernel
theorem d_law_4 : decode code 4 = .ok (.invokespecial 50, 3) := by decide +kernel
theorem d_law_7 : decode code 7 = .ok (.astore_n 1, 1) := by decide +kernel
theorem d_law_8 : decode code 8 = .ok (.new 51, 3) := by decide +kernel
theorem d_law_11 : decode code 11 = .ok (.dup, 1) := by decide +kernel
theorem d_law_12 : decode code 12 = .ok (.invokespecial 53, 3) := by decide +kernel
theorem d_law_15 : decode code 15 = .ok (.astore_n 2, 1) := by decide +kernel
theorem d_law_16 : decode code 16 = .ok (.iconst 1, 1) := by decide +kernel
theorem d_law_17 : decode code 17 = .ok (.newarray .long, 2) := by decide +kernel
theorem d_law_19 : decode code 19 = .ok (.astore_n 3, 1) := by decide +kernel
theorem d_law_20 : decode code 20 = .ok (.iconst 0, 1) := by decide +kernel
theorem d_law_21 : decode code 21 = .ok (.istore 4, 2) := by decide +kernel
theorem d_law_23 : decode code 23 = .ok (.iload 4, 2) := by decide +kernel
theorem d_law_25 : decode code 25 = .ok (.aload_n 0, 1) := by decide +kernel
theorem d_law_26 : decode code 26 = .ok (.arraylength, 1) := by decide +kernel
theorem d_law_27 : decode code 27 = .ok (.bipush 6, 2) := by decide +kernel
theorem d_law_29 : decode code 29 = .ok (.isub, 1) := by decide +kernel
theorem d_law_30 : decode code 30 = .ok (.if_icmp .gt 921, 3) := by decide +kernel
theorem d_law_33 : decode code 33 = .ok (.aload_n 0, 1) := by decide +kernel
theorem d_law_34 : decode code 34 = .ok (.iload 4, 2) := by decide +kernel
theorem d_law_36 : decode code 36 = .ok (.iaload, 1) := by decide +kernel
theorem d_law_37 : decode code 37 = .ok (.bipush 31, 2) := by decide +kernel
theorem d_law_39 : decode code 39 = .ok (.iand, 1) := by decide +kernel
theorem d_law_40 : decode code 40 = .ok (.tableswitch 905 0 17 #[88, 156, 212, 280, 336, 404, 460, 516, 529, 554, 567, 578, 682, 718, 731, 787, 824, 880], 88) := by decide +kernel
theorem d_law_128 : decode code 128 = .ok (.aload_n 1, 1) := by decide +kernel
theorem d_law_129 : decode code 129 = .ok (.aload_n 0, 1) := by decide +kernel
theorem d_law_130 : decode code 130 = .ok (.iload 4, 2) := by decide +kernel
theorem d_law_132 : decode code 132 = .ok (.iconst 1, 1) := by decide +kernel
theorem d_law_133 : decode code 133 = .ok (.iadd, 1) := by decide +kernel
theorem d_law_134 : decode code 134 = .ok (.iaload, 1) := by decide +kernel
theorem d_law_135 : decode code 135 = .ok (.aload_n 0, 1) := by decide +kernel
theorem d_law_136 : decode code 136 = .ok (.iload 4, 2) := by decide +kernel
theorem d_law_138 : decode code 138 = .ok (.iconst 2, 1) := by decide +kernel
theorem d_law_139 : decode code 139 = .ok (.iadd, 1) := by decide +kernel
theorem d_law_140 : decode code 140 = .ok (.iaload, 1) := by decide +kernel
theorem d_law_141 : decode code 141 = .ok (.aload_n 3, 1) := by decide +kernel
theorem d_law_142 : decode code 142 = .ok (.invokestatic 54, 3) := by decide +kernel
theorem d_law_145 : decode code 145 = .ok (.istore 5, 2) := by decide +kernel
theorem d_law_147 : decode code 147 = .ok (.aload_n 2, 1) := by decide +kernel
theorem d_law_148 : decode code 148 = .ok (.aload_n 0, 1) := by decide +kernel
theorem d_law_149 : decode code 149 = .ok (.iload 4, 2) := by decide +kernel
theorem d_law_151 : decode code 151 = .ok (.iconst 1, 1) := by decide +kernel
theorem d_law_152 : decode code 152 = .ok (.iadd, 1) := by decide +kernel
theorem d_law_153 : decode code 153 = .ok (.iaload, 1) := by decide +kernel
theorem d_law_154 : decode code 154 = .ok (.aload_n 0, 1) := by decide +kernel
theorem d_law_155 : decode code 155 = .ok (.iload 4, 2) := by decide +kernel
theorem d_law_157 : decode code 157 = .ok (.iconst 2, 1) := by decide +kernel
theorem d_law_158 : decode code 158 = .ok (.iadd, 1) := by decide +kernel
theorem d_law_159 : decode code 159 = .ok (.iaload, 1) := by decide +kernel
theorem d_law_160 : decode code 160 = .ok (.invokevirtual 59, 3) := by decide +kernel
theorem d_law_163 : decode code 163 = .ok (.istore 6, 2) := by decide +kernel
theorem d_law_165 : decode code 165 = .ok (.aload_n 2, 1) := by decide +kernel
theorem d_law_166 : decode code 166 = .ok (.invokevirtual 60, 3) := by decide +kernel
theorem d_law_169 : decode code 169 = .ok (.iload 5, 2) := by decide +kernel
theorem d_law_171 : decode code 171 = .ok (.if_icmp .eq 5, 3) := by decide +kernel
theorem d_law_174 : decode code 174 = .ok (.iconst 0, 1) := by decide +kernel
theorem d_law_175 : decode code 175 = .ok (.ireturn, 1) := by decide +kernel
theorem d_law_176 : decode code 176 = .ok (.iload 5, 2) := by decide +kernel
theorem d_law_178 : decode code 178 = .ok (.ifCond .ne 15, 3) := by decide +kernel
theorem d_law_181 : decode code 181 = .ok (.aload_n 3, 1) := by decide +kernel
theorem d_law_182 : decode code 182 = .ok (.iconst 0, 1) := by decide +kernel
theorem d_law_183 : decode code 183 = .ok (.laload, 1) := by decide +kernel
theorem d_law_184 : decode code 184 = .ok (.iload 6, 2) := by decide +kernel
theorem d_law_186 : decode code 186 = .ok (.i2l, 1) := by decide +kernel
theorem d_law_187 : decode code 187 = .ok (.lcmp, 1) := by decide +kernel
theorem d_law_188 : decode code 188 = .ok (.ifCond .eq 5, 3) := by decide +kernel
theorem d_law_191 : decode code 191 = .ok (.iconst 0, 1) := by decide +kernel
theorem d_law_192 : decode code 192 = .ok (.ireturn, 1) := by decide +kernel
theorem d_law_193 : decode code 193 = .ok (.goto 752, 3) := by decide +kernel
theorem d_law_196 : decode code 196 = .ok (.aload_n 1, 1) := by decide +kernel
theorem d_law_197 : decode code 197 = .ok (.aload_n 0, 1) := by decide +kernel
theorem d_law_198 : decode code 198 = .ok (.iload 4, 2) := by decide +kernel
theorem d_law_200 : decode code 200 = .ok (.iconst 1, 1) := by decide +kernel
theorem d_law_201 : decode code 201 = .ok (.iadd, 1) := by decide +kernel
theorem d_law_202 : decode code 202 = .ok (.iaload, 1) := by decide +kernel
theorem d_law_203 : decode code 203 = .ok (.aload_n 3, 1) := by decide +kernel
theorem d_law_204 : decode code 204 = .ok (.invokestatic 64, 3) := by decide +kernel
theorem d_law_207 : decode code 207 = .ok (.istore 5, 2) := by decide +kernel
theorem d_law_209 : decode code 209 = .ok (.aload_n 2, 1) := by decide +kernel
theorem d_law_210 : decode code 210 = .ok (.aload_n 0, 1) := by decide +kernel
theorem d_law_211 : decode code 211 = .ok (.iload 4, 2) := by decide +kernel
theorem d_law_213 : decode code 213 = .ok (.iconst 1, 1) := by decide +kernel
theorem d_law_214 : decode code 214 = .ok (.iadd, 1) := by decide +kernel
theorem d_law_215 : decode code 215 = .ok (.iaload, 1) := by decide +kernel
theorem d_law_216 : decode code 216 = .ok (.invokevirtual 67, 3) := by decide +kernel
theorem d_law_219 : decode code 219 = .ok (.istore 6, 2) := by decide +kernel
theorem d_law_221 : decode code 221 = .ok (.aload_n 2, 1) := by decide +kernel
theorem d_law_222 : decode code 222 = .ok (.invokevirtual 60, 3) := by decide +kernel
theorem d_law_225 : decode code 225 = .ok (.iload 5, 2) := by decide +kernel
theorem d_law_227 : decode code 227 = .ok (.if_icmp .eq 5, 3) := by decide +kernel
theorem d_law_230 : decode code 230 = .ok (.iconst 0, 1) := by decide +kernel
theorem d_law_231 : decode code 231 = .ok (.ireturn, 1) := by decide +kernel
theorem d_law_232 : decode code 232 = .ok (.iload 5, 2) := by decide +kernel
theorem d_law_234 : decode code 234 = .ok (.ifCond .ne 15, 3) := by decide +kernel
theorem d_law_237 : decode code 237 = .ok (.aload_n 3, 1) := by decide +kernel
theorem d_law_238 : decode code 238 = .ok (.iconst 0, 1) := by decide +kernel
theorem d_law_239 : decode code 239 = .ok (.laload, 1) := by decide +kernel
theorem d_law_240 : decode code 240 = .ok (.iload 6, 2) := by decide +kernel
theorem d_law_242 : decode code 242 = .ok (.i2l, 1) := by decide +kernel
theorem d_law_243 : decode code 243 = .ok (.lcmp, 1) := by decide +kernel
theorem d_law_244 : decode code 244 = .ok (.ifCond .eq 5, 3) := by decide +kernel
theorem d_law_247 : decode code 247 = .ok (.iconst 0, 1) := by decide +kernel
theorem d_law_248 : decode code 248 = .ok (.ireturn, 1) := by decide +kernel
theorem d_law_249 : decode code 249 = .ok (.goto 696, 3) := by decide +kernel
theorem d_law_252 : decode code 252 = .ok (.aload_n 1, 1) := by decide +kernel
theorem d_law_253 : decode code 253 = .ok (.aload_n 0, 1) := by decide +kernel
theorem d_law_254 : decode code 254 = .ok (.iload 4, 2) := by decide +kernel
theorem d_law_256 : decode code 256 = .ok (.iconst 1, 1) := by decide +kernel
theorem d_law_257 : decode code 257 = .ok (.iadd, 1) := by decide +kernel
theorem d_law_258 : decode code 258 = .ok (.iaload, 1) := by decide +kernel
theorem d_law_259 : decode code 259 = .ok (.aload_n 0, 1) := by decide +kernel
theorem d_law_260 : decode code 260 = .ok (.iload 4, 2) := by decide +kernel
theorem d_law_262 : decode code 262 = .ok (.iconst 2, 1) := by decide +kernel
theorem d_law_263 : decode code 263 = .ok (.iadd, 1) := by decide +kernel
theorem d_law_264 : decode code 264 = .ok (.iaload, 1) := by decide +kernel
theorem d_law_265 : decode code 265 = .ok (.aload_n 3, 1) := by decide +kernel
theorem d_law_266 : decode code 266 = .ok (.invokestatic 68, 3) := by decide +kernel
theorem d_law_269 : decode code 269 = .ok (.istore 5, 2) := by decide +kernel
theorem d_law_271 : decode code 271 = .ok (.aload_n 2, 1) := by decide +kernel
theorem d_law_272 : decode code 272 = .ok (.aload_n 0, 1) := by decide +kernel
theorem d_law_273 : decode code 273 = .ok (.iload 4, 2) := by decide +kernel
theorem d_law_275 : decode code 275 = .ok (.iconst 1, 1) := by decide +kernel
theorem d_law_276 : decode code 276 = .ok (.iadd, 1) := by decide +kernel
theorem d_law_277 : decode code 277 = .ok (.iaload, 1) := by decide +kernel
theorem d_law_278 : decode code 278 = .ok (.aload_n 0, 1) := by decide +kernel
theorem d_law_279 : decode code 279 = .ok (.iload 4, 2) := by decide +kernel
theorem d_law_281 : decode code 281 = .ok (.iconst 2, 1) := by decide +kernel
theorem d_law_282 : decode code 282 = .ok (.iadd, 1) := by decide +kernel
theorem d_law_283 : decode code 283 = .ok (.iaload, 1) := by decide +kernel
theorem d_law_284 : decode code 284 = .ok (.invokevirtual 70, 3) := by decide +kernel
theorem d_law_287 : decode code 287 = .ok (.istore 6, 2) := by decide +kernel
theorem d_law_289 : decode code 289 = .ok (.aload_n 2, 1) := by decide +kernel
theorem d_law_290 : decode code 290 = .ok (.invokevirtual 60, 3) := by decide +kernel
theorem d_law_293 : decode code 293 = .ok (.iload 5, 2) := by decide +kernel
theorem d_law_295 : decode code 295 = .ok (.if_icmp .eq 5, 3) := by decide +kernel
theorem d_law_298 : decode code 298 = .ok (.iconst 0, 1) := by decide +kernel
theorem d_law_299 : decode code 299 = .ok (.ireturn, 1) := by decide +kernel
theorem d_law_300 : decode code 300 = .ok (.iload 5, 2) := by decide +kernel
theorem d_law_302 : decode code 302 = .ok (.ifCond .ne 15, 3) := by decide +kernel
theorem d_law_305 : decode code 305 = .ok (.aload_n 3, 1) := by decide +kernel
theorem d_law_306 : decode code 306 = .ok (.iconst 0, 1) := by decide +kernel
theorem d_law_307 : decode code 307 = .ok (.laload, 1) := by decide +kernel
theorem d_law_308 : decode code 308 = .ok (.iload 6, 2) := by decide +kernel
theorem d_law_310 : decode code 310 = .ok (.i2l, 1) := by decide +kernel
theorem d_law_311 : decode code 311 = .ok (.lcmp, 1) := by decide +kernel
theorem d_law_312 : decode code 312 = .ok (.ifCond .eq 5, 3) := by decide +kernel
theorem d_law_315 : decode code 315 = .ok (.iconst 0, 1) := by decide +kernel
theorem d_law_316 : decode code 316 = .ok (.ireturn, 1) := by decide +kernel
theorem d_law_317 : decode code 317 = .ok (.goto 628, 3) := by decide +kernel
theorem d_law_320 : decode code 320 = .ok (.aload_n 1, 1) := by decide +kernel
theorem d_law_321 : decode code 321 = .ok (.aload_n 0, 1) := by decide +kernel
theorem d_law_322 : decode code 322 = .ok (.iload 4, 2) := by decide +kernel
theorem d_law_324 : decode code 324 = .ok (.iconst 1, 1) := by decide +kernel
theorem d_law_325 : decode code 325 = .ok (.iadd, 1) := by decide +kernel
theorem d_law_326 : decode code 326 = .ok (.iaload, 1) := by decide +kernel
theorem d_law_327 : decode code 327 = .ok (.aload_n 3, 1) := by decide +kernel
theorem d_law_328 : decode code 328 = .ok (.invokestatic 71, 3) := by decide +kernel
theorem d_law_331 : decode code 331 = .ok (.istore 5, 2) := by decide +kernel
theorem d_law_333 : decode code 333 = .ok (.aload_n 2, 1) := by decide +kernel
theorem d_law_334 : decode code 334 = .ok (.aload_n 0, 1) := by decide +kernel
theorem d_law_335 : decode code 335 = .ok (.iload 4, 2) := by decide +kernel
theorem d_law_337 : decode code 337 = .ok (.iconst 1, 1) := by decide +kernel
theorem d_law_338 : decode code 338 = .ok (.iadd, 1) := by decide +kernel
theorem d_law_339 : decode code 339 = .ok (.iaload, 1) := by decide +kernel
theorem d_law_340 : decode code 340 = .ok (.invokevirtual 73, 3) := by decide +kernel
theorem d_law_343 : decode code 343 = .ok (.istore 6, 2) := by decide +kernel
theorem d_law_345 : decode code 345 = .ok (.aload_n 2, 1) := by decide +kernel
theorem d_law_346 : decode code 346 = .ok (.invokevirtual 60, 3) := by decide +kernel
theorem d_law_349 : decode code 349 = .ok (.iload 5, 2) := by decide +kernel
theorem d_law_351 : decode code 351 = .ok (.if_icmp .eq 5, 3) := by decide +kernel
theorem d_law_354 : decode code 354 = .ok (.iconst 0, 1) := by decide +kernel
theorem d_law_355 : decode code 355 = .ok (.ireturn, 1) := by decide +kernel
theorem d_law_356 : decode code 356 = .ok (.iload 5, 2) := by decide +kernel
theorem d_law_358 : decode code 358 = .ok (.ifCond .ne 15, 3) := by decide +kernel
theorem d_law_361 : decode code 361 = .ok (.aload_n 3, 1) := by decide +kernel
theorem d_law_362 : decode code 362 = .ok (.iconst 0, 1) := by decide +kernel
theorem d_law_363 : decode code 363 = .ok (.laload, 1) := by decide +kernel
theorem d_law_364 : decode code 364 = .ok (.iload 6, 2) := by decide +kernel
theorem d_law_366 : decode code 366 = .ok (.i2l, 1) := by decide +kernel
theorem d_law_367 : decode code 367 = .ok (.lcmp, 1) := by decide +kernel
theorem d_law_368 : decode code 368 = .ok (.ifCond .eq 5, 3) := by decide +kernel
theorem d_law_371 : decode code 371 = .ok (.iconst 0, 1) := by decide +kernel
theorem d_law_372 : decode code 372 = .ok (.ireturn, 1) := by decide +kernel
theorem d_law_373 : decode code 373 = .ok (.goto 572, 3) := by decide +kernel
theorem d_law_376 : decode code 376 = .ok (.aload_n 1, 1) := by decide +kernel
theorem d_law_377 : decode code 377 = .ok (.aload_n 0, 1) := by decide +kernel
theorem d_law_378 : decode code 378 = .ok (.iload 4, 2) := by decide +kernel
theorem d_law_380 : decode code 380 = .ok (.iconst 1, 1) := by decide +kernel
theorem d_law_381 : decode code 381 = .ok (.iadd, 1) := by decide +kernel
theorem d_law_382 : decode code 382 = .ok (.iaload, 1) := by decide +kernel
theorem d_law_383 : decode code 383 = .ok (.aload_n 0, 1) := by decide +kernel
theorem d_law_384 : decode code 384 = .ok (.iload 4, 2) := by decide +kernel
theorem d_law_386 : decode code 386 = .ok (.iconst 2, 1) := by decide +kernel
theorem d_law_387 : decode code 387 = .ok (.iadd, 1) := by decide +kernel
theorem d_law_388 : decode code 388 = .ok (.iaload, 1) := by decide +kernel
theorem d_law_389 : decode code 389 = .ok (.aload_n 3, 1) := by decide +kernel
theorem d_law_390 : decode code 390 = .ok (.invokestatic 74, 3) := by decide +kernel
theorem d_law_393 : decode code 393 = .ok (.istore 5, 2) := by decide +kernel
theorem d_law_395 : decode code 395 = .ok (.aload_n 2, 1) := by decide +kernel
theorem d_law_396 : decode code 396 = .ok (.aload_n 0, 1) := by decide +kernel
theorem d_law_397 : decode code 397 = .ok (.iload 4, 2) := by decide +kernel
theorem d_law_399 : decode code 399 = .ok (.iconst 1, 1) := by decide +kernel
theorem d_law_400 : decode code 400 = .ok (.iadd, 1) := by decide +kernel
theorem d_law_401 : decode code 401 = .ok (.iaload, 1) := by decide +kernel
theorem d_law_402 : decode code 402 = .ok (.aload_n 0, 1) := by decide +kernel
theorem d_law_403 : decode code 403 = .ok (.iload 4, 2) := by decide +kernel
theorem d_law_405 : decode code 405 = .ok (.iconst 2, 1) := by decide +kernel
theorem d_law_406 : decode code 406 = .ok (.iadd, 1) := by decide +kernel
theorem d_law_407 : decode code 407 = .ok (.iaload, 1) := by decide +kernel
theorem d_law_408 : decode code 408 = .ok (.invokevirtual 76, 3) := by decide +kernel
theorem d_law_411 : decode code 411 = .ok (.istore 6, 2) := by decide +kernel
theorem d_law_413 : decode code 413 = .ok (.aload_n 2, 1) := by decide +kernel
theorem d_law_414 : decode code 414 = .ok (.invokevirtual 60, 3) := by decide +kernel
theorem d_law_417 : decode code 417 = .ok (.iload 5, 2) := by decide +kernel
theorem d_law_419 : decode code 419 = .ok (.if_icmp .eq 5, 3) := by decide +kernel
theorem d_law_422 : decode code 422 = .ok (.iconst 0, 1) := by decide +kernel
theorem d_law_423 : decode code 423 = .ok (.ireturn, 1) := by decide +kernel
theorem d_law_424 : decode code 424 = .ok (.iload 5, 2) := by decide +kernel
theorem d_law_426 : decode code 426 = .ok (.ifCond .ne 15, 3) := by decide +kernel
theorem d_law_429 : decode code 429 = .ok (.aload_n 3, 1) := by decide +kernel
theorem d_law_430 : decode code 430 = .ok (.iconst 0, 1) := by decide +kernel
theorem d_law_431 : decode code 431 = .ok (.laload, 1) := by decide +kernel
theorem d_law_432 : decode code 432 = .ok (.iload 6, 2) := by decide +kernel
theorem d_law_434 : decode code 434 = .ok (.i2l, 1) := by decide +kernel
theorem d_law_435 : decode code 435 = .ok (.lcmp, 1) := by decide +kernel
theorem d_law_436 : decode code 436 = .ok (.ifCond .eq 5, 3) := by decide +kernel
theorem d_law_439 : decode code 439 = .ok (.iconst 0, 1) := by decide +kernel
theorem d_law_440 : decode code 440 = .ok (.ireturn, 1) := by decide +kernel
theorem d_law_441 : decode code 441 = .ok (.goto 504, 3) := by decide +kernel
theorem d_law_444 : decode code 444 = .ok (.aload_n 1, 1) := by decide +kernel
theorem d_law_445 : decode code 445 = .ok (.aload_n 0, 1) := by decide +kernel
theorem d_law_446 : decode code 446 = .ok (.iload 4, 2) := by decide +kernel
theorem d_law_448 : decode code 448 = .ok (.iconst 1, 1) := by decide +kernel
theorem d_law_449 : decode code 449 = .ok (.iadd, 1) := by decide +kernel
theorem d_law_450 : decode code 450 = .ok (.iaload, 1) := by decide +kernel
theorem d_law_451 : decode code 451 = .ok (.aload_n 3, 1) := by decide +kernel
theorem d_law_452 : decode code 452 = .ok (.invokestatic 77, 3) := by decide +kernel
theorem d_law_455 : decode code 455 = .ok (.istore 5, 2) := by decide +kernel
theorem d_law_457 : decode code 457 = .ok (.aload_n 2, 1) := by decide +kernel
theorem d_law_458 : decode code 458 = .ok (.aload_n 0, 1) := by decide +kernel
theorem d_law_459 : decode code 459 = .ok (.iload 4, 2) := by decide +kernel
theorem d_law_461 : decode code 461 = .ok (.iconst 1, 1) := by decide +kernel
theorem d_law_462 : decode code 462 = .ok (.iadd, 1) := by decide +kernel
theorem d_law_463 : decode code 463 = .ok (.iaload, 1) := by decide +kernel
theorem d_law_464 : decode code 464 = .ok (.invokevirtual 79, 3) := by decide +kernel
theorem d_law_467 : decode code 467 = .ok (.istore 6, 2) := by decide +kernel
theorem d_law_469 : decode code 469 = .ok (.aload_n 2, 1) := by decide +kernel
theorem d_law_470 : decode code 470 = .ok (.invokevirtual 60, 3) := by decide +kernel
theorem d_law_473 : decode code 473 = .ok (.iload 5, 2) := by decide +kernel
theorem d_law_475 : decode code 475 = .ok (.if_icmp .eq 5, 3) := by decide +kernel
theorem d_law_478 : decode code 478 = .ok (.iconst 0, 1) := by decide +kernel
theorem d_law_479 : decode code 479 = .ok (.ireturn, 1) := by decide +kernel
theorem d_law_480 : decode code 480 = .ok (.iload 5, 2) := by decide +kernel
theorem d_law_482 : decode code 482 = .ok (.ifCond .ne 15, 3) := by decide +kernel
theorem d_law_485 : decode code 485 = .ok (.aload_n 3, 1) := by decide +kernel
theorem d_law_486 : decode code 486 = .ok (.iconst 0, 1) := by decide +kernel
theorem d_law_487 : decode code 487 = .ok (.laload, 1) := by decide +kernel
theorem d_law_488 : decode code 488 = .ok (.iload 6, 2) := by decide +kernel
theorem d_law_490 : decode code 490 = .ok (.i2l, 1) := by decide +kernel
theorem d_law_491 : decode code 491 = .ok (.lcmp, 1) := by decide +kernel
theorem d_law_492 : decode code 492 = .ok (.ifCond .eq 5, 3) := by decide +kernel
theorem d_law_495 : decode code 495 = .ok (.iconst 0, 1) := by decide +kernel
theorem d_law_496 : decode code 496 = .ok (.ireturn, 1) := by decide +kernel
theorem d_law_497 : decode code 497 = .ok (.goto 448, 3) := by decide +kernel
theorem d_law_500 : decode code 500 = .ok (.aload_n 1, 1) := by decide +kernel
theorem d_law_501 : decode code 501 = .ok (.aload_n 0, 1) := by decide +kernel
theorem d_law_502 : decode code 502 = .ok (.iload 4, 2) := by decide +kernel
theorem d_law_504 : decode code 504 = .ok (.iconst 1, 1) := by decide +kernel
theorem d_law_505 : decode code 505 = .ok (.iadd, 1) := by decide +kernel
theorem d_law_506 : decode code 506 = .ok (.iaload, 1) := by decide +kernel
theorem d_law_507 : decode code 507 = .ok (.aload_n 3, 1) := by decide +kernel
theorem d_law_508 : decode code 508 = .ok (.invokestatic 80, 3) := by decide +kernel
theorem d_law_511 : decode code 511 = .ok (.istore 5, 2) := by decide +kernel
theorem d_law_513 : decode code 513 = .ok (.aload_n 2, 1) := by decide +kernel
theorem d_law_514 : decode code 514 = .ok (.aload_n 0, 1) := by decide +kernel
theorem d_law_515 : decode code 515 = .ok (.iload 4, 2) := by decide +kernel
theorem d_law_517 : decode code 517 = .ok (.iconst 1, 1) := by decide +kernel
theorem d_law_518 : decode code 518 = .ok (.iadd, 1) := by decide +kernel
theorem d_law_519 : decode code 519 = .ok (.iaload, 1) := by decide +kernel
theorem d_law_520 : decode code 520 = .ok (.invokevirtual 82, 3) := by decide +kernel
theorem d_law_523 : decode code 523 = .ok (.istore 6, 2) := by decide +kernel
theorem d_law_525 : decode code 525 = .ok (.aload_n 2, 1) := by decide +kernel
theorem d_law_526 : decode code 526 = .ok (.invokevirtual 60, 3) := by decide +kernel
theorem d_law_529 : decode code 529 = .ok (.iload 5, 2) := by decide +kernel
theorem d_law_531 : decode code 531 = .ok (.if_icmp .eq 5, 3) := by decide +kernel
theorem d_law_534 : decode code 534 = .ok (.iconst 0, 1) := by decide +kernel
theorem d_law_535 : decode code 535 = .ok (.ireturn, 1) := by decide +kernel
theorem d_law_536 : decode code 536 = .ok (.iload 5, 2) := by decide +kernel
theorem d_law_538 : decode code 538 = .ok (.ifCond .ne 15, 3) := by decide +kernel
theorem d_law_541 : decode code 541 = .ok (.aload_n 3, 1) := by decide +kernel
theorem d_law_542 : decode code 542 = .ok (.iconst 0, 1) := by decide +kernel
theorem d_law_543 : decode code 543 = .ok (.laload, 1) := by decide +kernel
theorem d_law_544 : decode code 544 = .ok (.iload 6, 2) := by decide +kernel
theorem d_law_546 : decode code 546 = .ok (.i2l, 1) := by decide +kernel
theorem d_law_547 : decode code 547 = .ok (.lcmp, 1) := by decide +kernel
theorem d_law_548 : decode code 548 = .ok (.ifCond .eq 5, 3) := by decide +kernel
theorem d_law_551 : decode code 551 = .ok (.iconst 0, 1) := by decide +kernel
theorem d_law_552 : decode code 552 = .ok (.ireturn, 1) := by decide +kernel
theorem d_law_553 : decode code 553 = .ok (.goto 392, 3) := by decide +kernel
theorem d_law_556 : decode code 556 = .ok (.aload_n 1, 1) := by decide +kernel
theorem d_law_557 : decode code 557 = .ok (.invokevirtual 83, 3) := by decide +kernel
theorem d_law_560 : decode code 560 = .ok (.aload_n 2, 1) := by decide +kernel
theorem d_law_561 : decode code 561 = .ok (.invokevirtual 86, 3) := by decide +kernel
theorem d_law_564 : decode code 564 = .ok (.if_icmp .eq 381, 3) := by decide +kernel
theorem d_law_567 : decode code 567 = .ok (.iconst 0, 1) := by decide +kernel
theorem d_law_568 : decode code 568 = .ok (.ireturn, 1) := by decide +kernel
theorem d_law_569 : decode code 569 = .ok (.aload_n 1, 1) := by decide +kernel
theorem d_law_570 : decode code 570 = .ok (.aload_n 0, 1) := by decide +kernel
theorem d_law_571 : decode code 571 = .ok (.iload 4, 2) := by decide +kernel
theorem d_law_573 : decode code 573 = .ok (.iconst 1, 1) := by decide +kernel
theorem d_law_574 : decode code 574 = .ok (.iadd, 1) := by decide +kernel
theorem d_law_575 : decode code 575 = .ok (.iaload, 1) := by decide +kernel
theorem d_law_576 : decode code 576 = .ok (.invokevirtual 87, 3) := by decide +kernel
theorem d_law_579 : decode code 579 = .ok (.aload_n 2, 1) := by decide +kernel
theorem d_law_580 : decode code 580 = .ok (.aload_n 0, 1) := by decide +kernel
theorem d_law_581 : decode code 581 = .ok (.iload 4, 2) := by decide +kernel
theorem d_law_583 : decode code 583 = .ok (.iconst 1, 1) := by decide +kernel
theorem d_law_584 : decode code 584 = .ok (.iadd, 1) := by decide +kernel
theorem d_law_585 : decode code 585 = .ok (.iaload, 1) := by decide +kernel
theorem d_law_586 : decode code 586 = .ok (.invokevirtual 90, 3) := by decide +kernel
theorem d_law_589 : decode code 589 = .ok (.if_icmp .eq 356, 3) := by decide +kernel
theorem d_law_592 : decode code 592 = .ok (.iconst 0, 1) := by decide +kernel
theorem d_law_593 : decode code 593 = .ok (.ireturn, 1) := by decide +kernel
theorem d_law_594 : decode code 594 = .ok (.aload_n 1, 1) := by decide +kernel
theorem d_law_595 : decode code 595 = .ok (.invokevirtual 91, 3) := by decide +kernel
theorem d_law_598 : decode code 598 = .ok (.aload_n 2, 1) := by decide +kernel
theorem d_law_599 : decode code 599 = .ok (.invokevirtual 94, 3) := by decide +kernel
theorem d_law_602 : decode code 602 = .ok (.if_icmp .eq 343, 3) := by decide +kernel
theorem d_law_605 : decode code 605 = .ok (.iconst 0, 1) := by decide +kernel
theorem d_law_606 : decode code 606 = .ok (.ireturn, 1) := by decide +kernel
theorem d_law_607 : decode code 607 = .ok (.aload_n 1, 1) := by decide +kernel
theorem d_law_608 : decode code 608 = .ok (.invokevirtual 95, 3) := by decide +kernel
theorem d_law_611 : decode code 611 = .ok (.aload_n 2, 1) := by decide +kernel
theorem d_law_612 : decode code 612 = .ok (.invokevirtual 98, 3) := by decide +kernel
theorem d_law_615 : decode code 615 = .ok (.goto 330, 3) := by decide +kernel
theorem d_law_618 : decode code 618 = .ok (.aload_n 1, 1) := by decide +kernel
theorem d_law_619 : decode code 619 = .ok (.aload_n 0, 1) := by decide +kernel
theorem d_law_620 : decode code 620 = .ok (.iload 4, 2) := by decide +kernel
theorem d_law_622 : decode code 622 = .ok (.iconst 1, 1) := by decide +kernel
theorem d_law_623 : decode code 623 = .ok (.iadd, 1) := by decide +kernel
theorem d_law_624 : decode code 624 = .ok (.iaload, 1) := by decide +kernel
theorem d_law_625 : decode code 625 = .ok (.aload_n 0, 1) := by decide +kernel
theorem d_law_626 : decode code 626 = .ok (.iload 4, 2) := by decide +kernel
theorem d_law_628 : decode code 628 = .ok (.iconst 2, 1) := by decide +kernel
theorem d_law_629 : decode code 629 = .ok (.iadd, 1) := by decide +kernel
theorem d_law_630 : decode code 630 = .ok (.iaload, 1) := by decide +kernel
theorem d_law_631 : decode code 631 = .ok (.aload_n 0, 1) := by decide +kernel
theorem d_law_632 : decode code 632 = .ok (.iload 4, 2) := by decide +kernel
theorem d_law_634 : decode code 634 = .ok (.iconst 3, 1) := by decide +kernel
theorem d_law_635 : decode code 635 = .ok (.iadd, 1) := by decide +kernel
theorem d_law_636 : decode code 636 = .ok (.iaload, 1) := by decide +kernel
theorem d_law_637 : decode code 637 = .ok (.aload_n 0, 1) := by decide +kernel
theorem d_law_638 : decode code 638 = .ok (.iload 4, 2) := by decide +kernel
theorem d_law_640 : decode code 640 = .ok (.iconst 4, 1) := by decide +kernel
theorem d_law_641 : decode code 641 = .ok (.iadd, 1) := by decide +kernel
theorem d_law_642 : decode code 642 = .ok (.iaload, 1) := by decide +kernel
theorem d_law_643 : decode code 643 = .ok (.aload_n 0, 1) := by decide +kernel
theorem d_law_644 : decode code 644 = .ok (.iload 4, 2) := by decide +kernel
theorem d_law_646 : decode code 646 = .ok (.iconst 5, 1) := by decide +kernel
theorem d_law_647 : decode code 647 = .ok (.iadd, 1) := by decide +kernel
theorem d_law_648 : decode code 648 = .ok (.iaload, 1) := by decide +kernel
theorem d_law_649 : decode code 649 = .ok (.aload_n 3, 1) := by decide +kernel
theorem d_law_650 : decode code 650 = .ok (.invokestatic 99, 3) := by decide +kernel
theorem d_law_653 : decode code 653 = .ok (.istore 5, 2) := by decide +kernel
theorem d_law_655 : decode code 655 = .ok (.aload_n 2, 1) := by decide +kernel
theorem d_law_656 : decode code 656 = .ok (.aload_n 0, 1) := by decide +kernel
theorem d_law_657 : decode code 657 = .ok (.iload 4, 2) := by decide +kernel
theorem d_law_659 : decode code 659 = .ok (.iconst 1, 1) := by decide +kernel
theorem d_law_660 : decode code 660 = .ok (.iadd, 1) := by decide +kernel
theorem d_law_661 : decode code 661 = .ok (.iaload, 1) := by decide +kernel
theorem d_law_662 : decode code 662 = .ok (.aload_n 0, 1) := by decide +kernel
theorem d_law_663 : decode code 663 = .ok (.iload 4, 2) := by decide +kernel
theorem d_law_665 : decode code 665 = .ok (.iconst 2, 1) := by decide +kernel
theorem d_law_666 : decode code 666 = .ok (.iadd, 1) := by decide +kernel
theorem d_law_667 : decode code 667 = .ok (.iaload, 1) := by decide +kernel
theorem d_law_668 : decode code 668 = .ok (.aload_n 0, 1) := by decide +kernel
theorem d_law_669 : decode code 669 = .ok (.iload 4, 2) := by decide +kernel
theorem d_law_671 : decode code 671 = .ok (.iconst 3, 1) := by decide +kernel
theorem d_law_672 : decode code 672 = .ok (.iadd, 1) := by decide +kernel
theorem d_law_673 : decode code 673 = .ok (.iaload, 1) := by decide +kernel
theorem d_law_674 : decode code 674 = .ok (.aload_n 0, 1) := by decide +kernel
theorem d_law_675 : decode code 675 = .ok (.iload 4, 2) := by decide +kernel
theorem d_law_677 : decode code 677 = .ok (.iconst 4, 1) := by decide +kernel
theorem d_law_678 : decode code 678 = .ok (.iadd, 1) := by decide +kernel
theorem d_law_679 : decode code 679 = .ok (.iaload, 1) := by decide +kernel
theorem d_law_680 : decode code 680 = .ok (.aload_n 0, 1) := by decide +kernel
theorem d_law_681 : decode code 681 = .ok (.iload 4, 2) := by decide +kernel
theorem d_law_683 : decode code 683 = .ok (.iconst 5, 1) := by decide +kernel
theorem d_law_684 : decode code 684 = .ok (.iadd, 1) := by decide +kernel
theorem d_law_685 : decode code 685 = .ok (.iaload, 1) := by decide +kernel
theorem d_law_686 : decode code 686 = .ok (.invokevirtual 102, 3) := by decide +kernel
theorem d_law_689 : decode code 689 = .ok (.istore 6, 2) := by decide +kernel
theorem d_law_691 : decode code 691 = .ok (.aload_n 2, 1) := by decide +kernel
theorem d_law_692 : decode code 692 = .ok (.invokevirtual 60, 3) := by decide +kernel
theorem d_law_695 : decode code 695 = .ok (.iload 5, 2) := by decide +kernel
theorem d_law_697 : decode code 697 = .ok (.if_icmp .eq 5, 3) := by decide +kernel
theorem d_law_700 : decode code 700 = .ok (.iconst 0, 1) := by decide +kernel
theorem d_law_701 : decode code 701 = .ok (.ireturn, 1) := by decide +kernel
theorem d_law_702 : decode code 702 = .ok (.iload 5, 2) := by decide +kernel
theorem d_law_704 : decode code 704 = .ok (.ifCond .ne 15, 3) := by decide +kernel
theorem d_law_707 : decode code 707 = .ok (.aload_n 3, 1) := by decide +kernel
theorem d_law_708 : decode code 708 = .ok (.iconst 0, 1) := by decide +kernel
theorem d_law_709 : decode code 709 = .ok (.laload, 1) := by decide +kernel
theorem d_law_710 : decode code 710 = .ok (.iload 6, 2) := by decide +kernel
theorem d_law_712 : decode code 712 = .ok (.i2l, 1) := by decide +kernel
theorem d_law_713 : decode code 713 = .ok (.lcmp, 1) := by decide +kernel
theorem d_law_714 : decode code 714 = .ok (.ifCond .eq 5, 3) := by decide +kernel
theorem d_law_717 : decode code 717 = .ok (.iconst 0, 1) := by decide +kernel
theorem d_law_718 : decode code 718 = .ok (.ireturn, 1) := by decide +kernel
theorem d_law_719 : decode code 719 = .ok (.goto 226, 3) := by decide +kernel
theorem d_law_722 : decode code 722 = .ok (.aload_n 1, 1) := by decide +kernel
theorem d_law_723 : decode code 723 = .ok (.aload_n 0, 1) := by decide +kernel
theorem d_law_724 : decode code 724 = .ok (.iload 4, 2) := by decide +kernel
theorem d_law_726 : decode code 726 = .ok (.iconst 1, 1) := by decide +kernel
theorem d_law_727 : decode code 727 = .ok (.iadd, 1) := by decide +kernel
theorem d_law_728 : decode code 728 = .ok (.iaload, 1) := by decide +kernel
theorem d_law_729 : decode code 729 = .ok (.invokestatic 103, 3) := by decide +kernel
theorem d_law_732 : decode code 732 = .ok (.istore 5, 2) := by decide +kernel
theorem d_law_734 : decode code 734 = .ok (.aload_n 2, 1) := by decide +kernel
theorem d_law_735 : decode code 735 = .ok (.aload_n 0, 1) := by decide +kernel
theorem d_law_736 : decode code 736 = .ok (.iload 4, 2) := by decide +kernel
theorem d_law_738 : decode code 738 = .ok (.iconst 1, 1) := by decide +kernel
theorem d_law_739 : decode code 739 = .ok (.iadd, 1) := by decide +kernel
theorem d_law_740 : decode code 740 = .ok (.iaload, 1) := by decide +kernel
theorem d_law_741 : decode code 741 = .ok (.invokevirtual 106, 3) := by decide +kernel
theorem d_law_744 : decode code 744 = .ok (.aload_n 2, 1) := by decide +kernel
theorem d_law_745 : decode code 745 = .ok (.invokevirtual 60, 3) := by decide +kernel
theorem d_law_748 : decode code 748 = .ok (.iload 5, 2) := by decide +kernel
theorem d_law_750 : decode code 750 = .ok (.if_icmp .eq 5, 3) := by decide +kernel
theorem d_law_753 : decode code 753 = .ok (.iconst 0, 1) := by decide +kernel
theorem d_law_754 : decode code 754 = .ok (.ireturn, 1) := by decide +kernel
theorem d_law_755 : decode code 755 = .ok (.goto 190, 3) := by decide +kernel
theorem d_law_758 : decode code 758 = .ok (.aload_n 1, 1) := by decide +kernel
theorem d_law_759 : decode code 759 = .ok (.invokevirtual 107, 3) := by decide +kernel
theorem d_law_762 : decode code 762 = .ok (.aload_n 2, 1) := by decide +kernel
theorem d_law_763 : decode code 763 = .ok (.invokevirtual 110, 3) := by decide +kernel
theorem d_law_766 : decode code 766 = .ok (.if_icmp .eq 179, 3) := by decide +kernel
theorem d_law_769 : decode code 769 = .ok (.iconst 0, 1) := by decide +kernel
theorem d_law_770 : decode code 770 = .ok (.ireturn, 1) := by decide +kernel
theorem d_law_771 : decode code 771 = .ok (.aload_n 1, 1) := by decide +kernel
theorem d_law_772 : decode code 772 = .ok (.aload_n 0, 1) := by decide +kernel
theorem d_law_773 : decode code 773 = .ok (.iload 4, 2) := by decide +kernel
theorem d_law_775 : decode code 775 = .ok (.iconst 1, 1) := by decide +kernel
theorem d_law_776 : decode code 776 = .ok (.iadd, 1) := by decide +kernel
theorem d_law_777 : decode code 777 = .ok (.iaload, 1) := by decide +kernel
theorem d_law_778 : decode code 778 = .ok (.aload_n 3, 1) := by decide +kernel
theorem d_law_779 : decode code 779 = .ok (.invokestatic 111, 3) := by decide +kernel
theorem d_law_782 : decode code 782 = .ok (.istore 5, 2) := by decide +kernel
theorem d_law_784 : decode code 784 = .ok (.aload_n 2, 1) := by decide +kernel
theorem d_law_785 : decode code 785 = .ok (.aload_n 0, 1) := by decide +kernel
theorem d_law_786 : decode code 786 = .ok (.iload 4, 2) := by decide +kernel
theorem d_law_788 : decode code 788 = .ok (.iconst 1, 1) := by decide +kernel
theorem d_law_789 : decode code 789 = .ok (.iadd, 1) := by decide +kernel
theorem d_law_790 : decode code 790 = .ok (.iaload, 1) := by decide +kernel
theorem d_law_791 : decode code 791 = .ok (.invokevirtual 113, 3) := by decide +kernel
theorem d_law_794 : decode code 794 = .ok (.istore 6, 2) := by decide +kernel
theorem d_law_796 : decode code 796 = .ok (.aload_n 2, 1) := by decide +kernel
theorem d_law_797 : decode code 797 = .ok (.invokevirtual 60, 3) := by decide +kernel
theorem d_law_800 : decode code 800 = .ok (.iload 5, 2) := by decide +kernel
theorem d_law_802 : decode code 802 = .ok (.if_icmp .eq 5, 3) := by decide +kernel
theorem d_law_805 : decode code 805 = .ok (.iconst 0, 1) := by decide +kernel
theorem d_law_806 : decode code 806 = .ok (.ireturn, 1) := by decide +kernel
theorem d_law_807 : decode code 807 = .ok (.iload 5, 2) := by decide +kernel
theorem d_law_809 : decode code 809 = .ok (.ifCond .ne 15, 3) := by decide +kernel
theorem d_law_812 : decode code 812 = .ok (.aload_n 3, 1) := by decide +kernel
theorem d_law_813 : decode code 813 = .ok (.iconst 0, 1) := by decide +kernel
theorem d_law_814 : decode code 814 = .ok (.laload, 1) := by decide +kernel
theorem d_law_815 : decode code 815 = .ok (.iload 6, 2) := by decide +kernel
theorem d_law_817 : decode code 817 = .ok (.i2l, 1) := by decide +kernel
theorem d_law_818 : decode code 818 = .ok (.lcmp, 1) := by decide +kernel
theorem d_law_819 : decode code 819 = .ok (.ifCond .eq 5, 3) := by decide +kernel
theorem d_law_822 : decode code 822 = .ok (.iconst 0, 1) := by decide +kernel
theorem d_law_823 : decode code 823 = .ok (.ireturn, 1) := by decide +kernel
theorem d_law_824 : decode code 824 = .ok (.goto 121, 3) := by decide +kernel
theorem d_law_827 : decode code 827 = .ok (.aload_n 1, 1) := by decide +kernel
theorem d_law_828 : decode code 828 = .ok (.aload_n 0, 1) := by decide +kernel
theorem d_law_829 : decode code 829 = .ok (.iload 4, 2) := by decide +kernel
theorem d_law_831 : decode code 831 = .ok (.iconst 1, 1) := by decide +kernel
theorem d_law_832 : decode code 832 = .ok (.iadd, 1) := by decide +kernel
theorem d_law_833 : decode code 833 = .ok (.iaload, 1) := by decide +kernel
theorem d_law_834 : decode code 834 = .ok (.aload_n 0, 1) := by decide +kernel
theorem d_law_835 : decode code 835 = .ok (.iload 4, 2) := by decide +kernel
theorem d_law_837 : decode code 837 = .ok (.iconst 2, 1) := by decide +kernel
theorem d_law_838 : decode code 838 = .ok (.iadd, 1) := by decide +kernel
theorem d_law_839 : decode code 839 = .ok (.iaload, 1) := by decide +kernel
theorem d_law_840 : decode code 840 = .ok (.invokevirtual 114, 3) := by decide +kernel
theorem d_law_843 : decode code 843 = .ok (.aload_n 2, 1) := by decide +kernel
theorem d_law_844 : decode code 844 = .ok (.aload_n 0, 1) := by decide +kernel
theorem d_law_845 : decode code 845 = .ok (.iload 4, 2) := by decide +kernel
theorem d_law_847 : decode code 847 = .ok (.iconst 1, 1) := by decide +kernel
theorem d_law_848 : decode code 848 = .ok (.iadd, 1) := by decide +kernel
theorem d_law_849 : decode code 849 = .ok (.iaload, 1) := by decide +kernel
theorem d_law_850 : decode code 850 = .ok (.aload_n 0, 1) := by decide +kernel
theorem d_law_851 : decode code 851 = .ok (.iload 4, 2) := by decide +kernel
theorem d_law_853 : decode code 853 = .ok (.iconst 2, 1) := by decide +kernel
theorem d_law_854 : decode code 854 = .ok (.iadd, 1) := by decide +kernel
theorem d_law_855 : decode code 855 = .ok (.iaload, 1) := by decide +kernel
theorem d_law_856 : decode code 856 = .ok (.invokevirtual 117, 3) := by decide +kernel
theorem d_law_859 : decode code 859 = .ok (.if_icmp .eq 86, 3) := by decide +kernel
theorem d_law_862 : decode code 862 = .ok (.iconst 0, 1) := by decide +kernel
theorem d_law_863 : decode code 863 = .ok (.ireturn, 1) := by decide +kernel
theorem d_law_864 : decode code 864 = .ok (.aload_n 1, 1) := by decide +kernel
theorem d_law_865 : decode code 865 = .ok (.aload_n 0, 1) := by decide +kernel
theorem d_law_866 : decode code 866 = .ok (.iload 4, 2) := by decide +kernel
theorem d_law_868 : decode code 868 = .ok (.iconst 1, 1) := by decide +kernel
theorem d_law_869 : decode code 869 = .ok (.iadd, 1) := by decide +kernel
theorem d_law_870 : decode code 870 = .ok (.iaload, 1) := by decide +kernel
theorem d_law_871 : decode code 871 = .ok (.aload_n 3, 1) := by decide +kernel
theorem d_law_872 : decode code 872 = .ok (.invokestatic 118, 3) := by decide +kernel
theorem d_law_875 : decode code 875 = .ok (.istore 5, 2) := by decide +kernel
theorem d_law_877 : decode code 877 = .ok (.aload_n 2, 1) := by decide +kernel
theorem d_law_878 : decode code 878 = .ok (.aload_n 0, 1) := by decide +kernel
theorem d_law_879 : decode code 879 = .ok (.iload 4, 2) := by decide +kernel
theorem d_law_881 : decode code 881 = .ok (.iconst 1, 1) := by decide +kernel
theorem d_law_882 : decode code 882 = .ok (.iadd, 1) := by decide +kernel
theorem d_law_883 : decode code 883 = .ok (.iaload, 1) := by decide +kernel
theorem d_law_884 : decode code 884 = .ok (.invokevirtual 120, 3) := by decide +kernel
theorem d_law_887 : decode code 887 = .ok (.istore 6, 2) := by decide +kernel
theorem d_law_889 : decode code 889 = .ok (.aload_n 2, 1) := by decide +kernel
theorem d_law_890 : decode code 890 = .ok (.invokevirtual 60, 3) := by decide +kernel
theorem d_law_893 : decode code 893 = .ok (.iload 5, 2) := by decide +kernel
theorem d_law_895 : decode code 895 = .ok (.if_icmp .eq 5, 3) := by decide +kernel
theorem d_law_898 : decode code 898 = .ok (.iconst 0, 1) := by decide +kernel
theorem d_law_899 : decode code 899 = .ok (.ireturn, 1) := by decide +kernel
theorem d_law_900 : decode code 900 = .ok (.iload 5, 2) := by decide +kernel
theorem d_law_902 : decode code 902 = .ok (.ifCond .ne 15, 3) := by decide +kernel
theorem d_law_905 : decode code 905 = .ok (.aload_n 3, 1) := by decide +kernel
theorem d_law_906 : decode code 906 = .ok (.iconst 0, 1) := by decide +kernel
theorem d_law_907 : decode code 907 = .ok (.laload, 1) := by decide +kernel
theorem d_law_908 : decode code 908 = .ok (.iload 6, 2) := by decide +kernel
theorem d_law_910 : decode code 910 = .ok (.i2l, 1) := by decide +kernel
theorem d_law_911 : decode code 911 = .ok (.lcmp, 1) := by decide +kernel
theorem d_law_912 : decode code 912 = .ok (.ifCond .eq 5, 3) := by decide +kernel
theorem d_law_915 : decode code 915 = .ok (.iconst 0, 1) := by decide +kernel
theorem d_law_916 : decode code 916 = .ok (.ireturn, 1) := by decide +kernel
theorem d_law_917 : decode code 917 = .ok (.goto 28, 3) := by decide +kernel
theorem d_law_920 : decode code 920 = .ok (.aload_n 1, 1) := by decide +kernel
theorem d_law_921 : decode code 921 = .ok (.aload_n 0, 1) := by decide +kernel
theorem d_law_922 : decode code 922 = .ok (.iload 4, 2) := by decide +kernel
theorem d_law_924 : decode code 924 = .ok (.iconst 1, 1) := by decide +kernel
theorem d_law_925 : decode code 925 = .ok (.iadd, 1) := by decide +kernel
theorem d_law_926 : decode code 926 = .ok (.iaload, 1) := by decide +kernel
theorem d_law_927 : decode code 927 = .ok (.invokevirtual 121, 3) := by decide +kernel
theorem d_law_930 : decode code 930 = .ok (.aload_n 2, 1) := by decide +kernel
theorem d_law_931 : decode code 931 = .ok (.aload_n 0, 1) := by decide +kernel
theorem d_law_932 : decode code 932 = .ok (.iload 4, 2) := by decide +kernel
theorem d_law_934 : decode code 934 = .ok (.iconst 1, 1) := by decide +kernel
theorem d_law_935 : decode code 935 = .ok (.iadd, 1) := by decide +kernel
theorem d_law_936 : decode code 936 = .ok (.iaload, 1) := by decide +kernel
theorem d_law_937 : decode code 937 = .ok (.invokevirtual 124, 3) := by decide +kernel
theorem d_law_940 : decode code 940 = .ok (.if_icmp .eq 5, 3) := by decide +kernel
theorem d_law_943 : decode code 943 = .ok (.iconst 0, 1) := by decide +kernel
theorem d_law_944 : decode code 944 = .ok (.ireturn, 1) := by decide +kernel
theorem d_law_945 : decode code 945 = .ok (.iinc 4 6, 3) := by decide +kernel
theorem d_law_948 : decode code 948 = .ok (.goto (-925), 3) := by decide +kernel
theorem d_law_951 : decode code 951 = .ok (.iconst 1, 1) := by decide +kernel
theorem d_law_952 : decode code 952 = .ok (.ireturn, 1) := by decide +kernel
/-! THE CLAIM OUT OF ONE WALK OF THE LAW'S BODY. Your part is whole_start (and what it stands on); all else here is the same for every law, but numbers. -/
def R_law : String := "NovaDeskLaw"
def lw_P (b : Addr) (xs : List Int32) (args : Array Value) (s : State) : Prop := args = #[.ref b] ∧ s.IntsAt b xs ∧ xs.length ≤ 3072 ∧ (Jvm.Cond.and given_1 narrow_1).before args s = true
def lw_Q (_ : Array Value) (s : State) (o : Outcome) (t : State) : Prop := o = .returned (some (.int 1)) ∧ Framed s o t [] 601024 7293034
def lw_Z (below : List Frame) (a : Array Value) (s : State) : State → Prop := fun t => ∃ o, t.status = .running ∧ Ended t below o ∧ lw_Q a s o t
/-- the law's own end, with 1 on the stack, nothing written that was there before, its room as the claim has it -/
theorem lw_ret {p : Program} {l : Launch} {e : Env} {s : State} {m : MethodId} {below : List Frame} {meth : Method} {c : Code} {b : Nat} (hx : p.tables.exec = Jvm.exec) (hb : c.code = code) (hr : meth.sig.returnType = ret) (hlocks : meth.locks = false) {pc : Nat} {H : Heap} {ls : Array Slot} (hdg : decode code pc = .ok (.ireturn, 1)) : W p l e room_1 s m #[Value.ref b] below meth c H [] 601024 7293034 (lw_Z below #[Value.ref b] s) (F0 m pc ls [.int 1]) := by
  intro T hT X
  obtain ⟨fs, hret, hrun, hended, hW, hframe⟩ := X.leave (v := some (.int 1)) (hlocks := hlocks) (fun h => by rw [hr] at h; cases h)
  have hmeth' : T.vm.method? m = some meth := X.method'
  refine ⟨T.setFrames fs, ?_, .returned (some (.int 1)), hrun, hended, rfl, ⟨_, rfl⟩, hW, hframe⟩
  jvm_step X.here [X.here.top, hx, hb, hdg, hmeth', hr, ret, narrow_b1]
  (try refine ⟨rfl, ?_⟩); (try refine ⟨rfl, ?_⟩)
  first | (intro acts; rw [hret _ acts rfl rfl rfl]) | rw [hret _ _ rfl rfl rfl]
  exact Steps.refl _
/-- what holds at the law's entry: the machine, the code, the tables' words (any of lw_tbl by 'hts w (by decide +kernel)'), the script of L ints xs at the cell b, what the Statement gives of the start (any of its parts by flat_of_before) -/
def lw_At (p : Program) (s : State) (m : MethodId) (meth : Method) (c : Code) (b L : Nat) (xs : Nat → Int32) : Prop :=
  p.tables.exec = Jvm.exec ∧ c.code = code ∧ meth.sig.returnType = ret ∧ c.maxLocals = 7 ∧ s.vm.findClass R_law = some m.cls ∧ (∀ w ∈ lw_tbl, w.before #[Value.ref b] s = true) ∧ va_X b L xs s s.heap ∧ b < s.heap.size ∧ meth.locks = false ∧ (Jvm.Cond.and given_1 narrow_1).before #[Value.ref b] s = true
