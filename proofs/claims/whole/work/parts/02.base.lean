/-! the base: words, pure states, the context that a walk carries, contracts, calls -/
def GW : List Cond := lw_tbl.filter goodWord
theorem gt_1 {w : Cond} (h : w ∈ tables_1_1) : w ∈ tables_1 := List.mem_append_left _ h
theorem gt_2 {w : Cond} (h : w ∈ tables_1_2) : w ∈ tables_1 := List.mem_append_right _ (List.mem_append_left _ h)
theorem gt_3 {w : Cond} (h : w ∈ tables_1_3) : w ∈ tables_1 := List.mem_append_right _ (List.mem_append_right _ (List.mem_append_left _ h))
theorem gt_4 {w : Cond} (h : w ∈ tables_1_4) : w ∈ tables_1 := List.mem_append_right _ (List.mem_append_right _ (List.mem_append_right _ (List.mem_append_left _ h)))
theorem gt_5 {w : Cond} (h : w ∈ tables_1_5) : w ∈ tables_1 := List.mem_append_right _ (List.mem_append_right _ (List.mem_append_right _ (List.mem_append_right _ (List.mem_append_left _ h))))
theorem gt_6 {w : Cond} (h : w ∈ tables_1_6) : w ∈ tables_1 := List.mem_append_right _ (List.mem_append_right _ (List.mem_append_right _ (List.mem_append_right _ (List.mem_append_right _ (List.mem_append_left _ h)))))
theorem gt_7 {w : Cond} (h : w ∈ tables_1_7) : w ∈ tables_1 := List.mem_append_right _ (List.mem_append_right _ (List.mem_append_right _ (List.mem_append_right _ (List.mem_append_right _ (List.mem_append_right _ (h))))))
theorem gw_t {w : Cond} (h : w ∈ tables_1) (g : goodWord w = true) : w ∈ GW := List.mem_filter.mpr ⟨List.mem_append_right _ h, g⟩
theorem gw_p {w : Cond} (h : w ∈ k2_sels lw_privs) (g : goodWord w = true) : w ∈ GW := List.mem_filter.mpr ⟨List.mem_append_left _ h, g⟩
theorem gw_g {w : Cond} (h : w ∈ GW) : w ∈ GW ∧ ((w.onTables && w.keeps) = true ∨ ∃ ty, w = .arrayClass ty) := ⟨h, good_of_word (List.mem_filter.mp h).2⟩
theorem gw_cons {y : MethodName} {bc : ByteArray} {mL : Nat} {rt : Option FieldType} (h : Cond.code y bc mL rt ∈ GW) : GoodIn GW (.code y bc mL rt :: GW) := by
  intro w hw
  rcases List.mem_cons.mp hw with rfl | hw
  · exact gw_g h
  · exact gw_g hw
theorem gw_hts {y : MethodName} {bc : ByteArray} {mL : Nat} {rt : Option FieldType} {args : Array Value} {s : State} (h : ∀ w ∈ (Cond.code y bc mL rt :: GW), w.before args s = true) : ∀ w ∈ GW, w.before args s = true := fun w hw => h w (List.mem_cons_of_mem _ hw)
/-- pure states: numbers, rows of numbers, longs, rows of longs -/
abbrev SS : Type := (Nat → Int32) × (Nat → Nat → Int32) × (Nat → Int64) × (Nat → Nat → Int64)
abbrev nm {α : Type} (e : α) (K : α → Prop) : Prop := K e
abbrev br (c A B : Prop) : Prop := (c → A) ∧ (¬ c → B)
abbrev bz (x : Int32) : Prop := x = 0 ∨ x = 1
theorem nm_u {α : Type} {e x : α} {K : α → Prop} (h : nm e K) (ex : x = e) : K x := by subst ex; exact h
theorem bz_n {x : Int32} (h : bz x) : narrow .boolean (.int x) = .int x := by rcases h with rfl | rfl <;> decide
theorem bz_f {x : Int32} (h : bz x) : fits .boolean (.int x) = true := by rcases h with rfl | rfl <;> decide
theorem bz_0 : bz 0 := Or.inl rfl
theorem bz_1 : bz 1 := Or.inr rfl
def sI (σ : SS) (k : Nat) (v : Int32) : SS := (upd σ.1 k v, σ.2)
def sA (σ : SS) (k i : Nat) (v : Int32) : SS := (σ.1, (fun j => if j = k then upd (σ.2.1 k) i v else σ.2.1 j), σ.2.2)
def sL (σ : SS) (k : Nat) (v : Int64) : SS := (σ.1, σ.2.1, vp_updL σ.2.2.1 k v, σ.2.2.2)
def sB (σ : SS) (k i : Nat) (v : Int64) : SS := (σ.1, σ.2.1, σ.2.2.1, fun j => if j = k then vp_updL (σ.2.2.2 k) i v else σ.2.2.2 j)
/-- what a walk carries: the tables, the cells of its world, their being apart, what has changed, what else it rests on -/
def CX (D : va_G) (cl : List vw_C) (tys : List (ClassId × FieldType)) (w : va_W) (X : (Nat → Prop) → State → Prop) (A : Nat → Prop) (s : State) (H : Heap) (locs : List Loc) : Prop :=
  va_K D cl tys s ∧ va_P D cl w H ∧ va_D A w ∧ va_S A s.heap H locs ∧ (∀ q, s.heap.size ≤ q → A q) ∧ X A s
/-- what else it rests on goes over into a call -/
def XT (X : (Nat → Prop) → State → Prop) : Prop := ∀ (A A1 : Nat → Prop) (s U : State) (locs : List Loc), X A s → va_S A s.heap U.heap locs → (∀ q, A1 q → A q) → s.WarmedH U.vm → X A1 U
def PreW (D : va_G) (cl : List vw_C) (tys : List (ClassId × FieldType)) (w : va_W) (X : (Nat → Prop) → State → Prop) (sz : Nat) (U : State) : Prop :=
  U.heap.size = sz ∧ va_P D cl w U.heap ∧ va_K D cl tys U ∧ va_D (fun _ => True) w ∧ X (va_A w sz) U
def PostW (D : va_G) (cl : List vw_C) (tys : List (ClassId × FieldType)) (wf : SS → va_W) (A : Nat → Prop) (σ : SS) (t : State) : Prop :=
  va_P D cl (wf σ) t.heap ∧ va_K D cl tys t ∧ va_D A (wf σ)
/-- contracts: an int, a long, nothing -/
def mI (l : Launch) (y : MethodName) (bc : ByteArray) (mL : Nat) (rt : Option FieldType) (fr lc : Nat) (D : va_G) (cl : List vw_C) (tys : List (ClassId × FieldType)) (wf : SS → va_W) (X : (Nat → Prop) → State → Prop) (σ : SS) (av : List Value) (post : Int32 → SS → Prop) : Prop :=
  ∀ sz, Met l y (.code y bc mL rt :: GW) { frames := fr, cells := 0, slots := 0, locals := lc } (va_Pc av (PreW D cl tys (wf σ) X sz)) (va_Qi post (PostW D cl tys wf (va_A (wf σ) sz)) (va_A (wf σ) sz)) 0 0 (va_A (wf σ) sz)
def mJ (l : Launch) (y : MethodName) (bc : ByteArray) (mL : Nat) (rt : Option FieldType) (fr lc : Nat) (D : va_G) (cl : List vw_C) (tys : List (ClassId × FieldType)) (wf : SS → va_W) (X : (Nat → Prop) → State → Prop) (σ : SS) (av : List Value) (post : Int64 → SS → Prop) : Prop :=
  ∀ sz, Met l y (.code y bc mL rt :: GW) { frames := fr, cells := 0, slots := 0, locals := lc } (va_Pc av (PreW D cl tys (wf σ) X sz)) (va_Ql post (PostW D cl tys wf (va_A (wf σ) sz)) (va_A (wf σ) sz)) 0 0 (va_A (wf σ) sz)
def mV (l : Launch) (y : MethodName) (bc : ByteArray) (mL : Nat) (rt : Option FieldType) (fr lc : Nat) (D : va_G) (cl : List vw_C) (tys : List (ClassId × FieldType)) (wf : SS → va_W) (X : (Nat → Prop) → State → Prop) (σ : SS) (av : List Value) (post : SS → Prop) : Prop :=
  ∀ sz, Met l y (.code y bc mL rt :: GW) { frames := fr, cells := 0, slots := 0, locals := lc } (va_Pc av (PreW D cl tys (wf σ) X sz)) (va_Qv post (PostW D cl tys wf (va_A (wf σ) sz)) (va_A (wf σ) sz)) 0 0 (va_A (wf σ) sz)
/-- a call's words: virtual (its class is the receiver's), static -/
def CVW (own : String) (idx : Nat) (C : String) (y : MethodName) (bc : ByteArray) (mL : Nat) (rt : Option FieldType) (n : Nat) : Prop :=
  GoodIn GW (wsV own idx C y (.code y bc mL rt :: GW)) ∧ (y.cls = C ∧ y.cls ≠ "java/lang/invoke/MethodHandle" ∧ y.cls ≠ "java/lang/invoke/VarHandle" ∧ (parseMethodDescriptor y.desc).map (fun d => d.parameters.length) = some n)
def CSW (own : String) (idx : Nat) (y : MethodName) (bc : ByteArray) (mL : Nat) (rt : Option FieldType) (n : Nat) : Prop :=
  GoodIn GW (wsS own idx y (.code y bc mL rt :: GW)) ∧ (y.cls = own ∧ y.cls ≠ "java/lang/invoke/MethodHandle" ∧ y.cls ≠ "java/lang/invoke/VarHandle" ∧ (parseMethodDescriptor y.desc).map (fun d => d.parameters.length) = some n)
theorem cvw {own : String} {idx : Nat} {C : String} {y : MethodName} {bc : ByteArray} {mL : Nat} {rt : Option FieldType} {n : Nat} (h1 : Cond.methodLink own idx y ∈ GW) (h2 : Cond.instanceMethod y ∈ GW) (h3 : Cond.selects C y y ∈ GW) (h4 : Cond.initialized C ∈ GW) (h5 : Cond.code y bc mL rt ∈ GW) (h6 : y.cls = C ∧ y.cls ≠ "java/lang/invoke/MethodHandle" ∧ y.cls ≠ "java/lang/invoke/VarHandle" ∧ (parseMethodDescriptor y.desc).map (fun d => d.parameters.length) = some n) : CVW own idx C y bc mL rt n := by
  refine ⟨fun w hw => ?_, h6⟩
  unfold wsV at hw
  rcases List.mem_append.mp hw with hw | hw
  · simp only [List.mem_cons, List.not_mem_nil, or_false] at hw
    rcases hw with rfl | rfl | rfl | rfl
    · exact gw_g h1
    · exact gw_g h2
    · exact gw_g h3
    · exact gw_g h4
  · exact gw_cons h5 w hw
theorem csw {own : String} {idx : Nat} {y : MethodName} {bc : ByteArray} {mL : Nat} {rt : Option FieldType} {n : Nat} (h1 : Cond.methodLink own idx y ∈ GW) (h2 : Cond.static y ∈ GW) (h4 : Cond.initialized own ∈ GW) (h5 : Cond.code y bc mL rt ∈ GW) (h6 : y.cls = own ∧ y.cls ≠ "java/lang/invoke/MethodHandle" ∧ y.cls ≠ "java/lang/invoke/VarHandle" ∧ (parseMethodDescriptor y.desc).map (fun d => d.parameters.length) = some n) : CSW own idx y bc mL rt n := by
  refine ⟨fun w hw => ?_, h6⟩
  unfold wsS at hw
  rcases List.mem_append.mp hw with hw | hw
  · simp only [List.mem_cons, List.not_mem_nil, or_false] at hw
    rcases hw with rfl | rfl | rfl
    · exact gw_g h1
    · exact gw_g h2
    · exact gw_g h4
  · exact gw_cons h5 w hw
theorem pw_blind {D : va_G} {cl : List vw_C} {tys : List (ClassId × FieldType)} {w : va_W} {X : (Nat → Prop) → State → Prop} (hX : XT X) {sz : Nat} {av : List Value} : FrameBlind (va_Pc av (PreW D cl tys w X sz)) := by
  intro a U g mk q
  obtain ⟨q0, q1, qP, qK, qD, qX⟩ := q
  exact ⟨q0, q1, qP, va_K.moved (u := U) (U := U.calling g mk a) (Vm.Alike.refl U.vm) qK, qD, hX _ _ U (U.calling g mk a) [] qX ⟨Nat.le_refl _, fun _ _ _ => rfl, fun _ h => by cases h⟩ (fun _ h => h) (State.WarmedH.refl U)⟩
theorem cx_free {D : va_G} {cl : List vw_C} {tys : List (ClassId × FieldType)} {w : va_W} {X : (Nat → Prop) → State → Prop} {A : Nat → Prop} {s : State} {H : Heap} {locs : List Loc} (hw : CX D cl tys w X A s H locs) : ∀ q, va_A w H.size q → A q := by
  obtain ⟨hK, hP, hD, hS, hA, hx⟩ := hw
  intro q h
  exact h.elim (fun ⟨k, e, h⟩ => hD.2 k (q, e) h) (fun h => hA q (Nat.le_trans hS.1 h))
theorem cx_pre {D : va_G} {cl : List vw_C} {tys : List (ClassId × FieldType)} {w : va_W} {X : (Nat → Prop) → State → Prop} {A : Nat → Prop} {s : State} {H : Heap} {locs : List Loc} (hX : XT X) (hw : CX D cl tys w X A s H locs) {U : State} (hU : U.heap = H) (hW : s.WarmedH U.vm) : PreW D cl tys w X H.size U := by
  have hf9 := cx_free hw
  obtain ⟨hK, hP, hD, hS, hA, hx⟩ := hw
  subst hU
  exact ⟨rfl, hP, va_K.moved hW.alike hK, hD.weaken (fun _ _ _ _ => trivial), hX A _ s U locs hx hS hf9 hW⟩
theorem cx_back {D : va_G} {cl : List vw_C} {tys : List (ClassId × FieldType)} {wf : SS → va_W} {X : (Nat → Prop) → State → Prop} {A : Nat → Prop} {s t : State} {H H1 : Heap} {locs locs1 : List Loc} {σ σ1 : SS} (hw : CX D cl tys (wf σ) X A s H locs) (ht : t.heap = H1) (hB : PostW D cl tys wf (va_A (wf σ) H.size) σ1 t) (hS : va_S A s.heap H1 locs1) : CX D cl tys (wf σ1) X A s H1 locs1 := by
  have hf := cx_free hw
  obtain ⟨hK, hP, hD, -, hA, hx⟩ := hw
  obtain ⟨hP1, hK1, hD1⟩ := hB
  subst ht
  exact ⟨hK, hP1, hD1.weaken (fun _ q _ h => hf q.1 h), hS, hA, hx⟩
section CallRows
variable {p : Program} {l : Launch} {e : Env} {R : Room} {s : State} {m : MethodId} {args : Array Value} {below : List Frame} {meth : Method} {c : Code} {H : Heap} {locs : List Loc} {cells slots : Nat} {Q : State → Prop}
variable {cc : ByteArray} {nL : Nat} {own : String} {D : va_G} {cl : List vw_C} {tys : List (ClassId × FieldType)} {wf : SS → va_W} {X : (Nat → Prop) → State → Prop} {A : Nat → Prop} {σ : SS} {pc : Nat} {ls : Array Slot} {rest : List Value} {y : MethodName} {bc : ByteArray} {mL : Nat} {rt : Option FieldType} {fr lc n idx : Nat} {C : String} {b : Nat} {As : List Value}
theorem cxI (hX : XT X) (fx : CallFix p m c cc nL s args GW own) (hw : CX D cl tys (wf σ) X A s H locs) {post : Int32 → SS → Prop} (hM : mI l y bc mL rt fr lc D cl tys wf X σ (.ref b :: As) post) (cw : CVW own idx C y bc mL rt n) (hb : ∃ cell : Cell, H[b]? = some cell ∧ cell.vm.isStatics = false ∧ s.vm.findClass C = some cell.cls) (hn : As.length = n) (hR : fr + 1 ≤ R.frames ∧ 8 + (mL + 11) + lc ≤ R.locals) (hsz : ls.size = nL) (hst : (rest.map fun v => v.category).sum ≤ 8) (hdg : decode cc pc = .ok (.invokevirtual idx, 3)) (hf : cells ≤ R.cells ∧ slots ≤ R.slots)
    (k : ∀ (r : Int32) (σ1 : SS) (H1 : Heap) (locs1 : List Loc), CX D cl tys (wf σ1) X A s H1 locs1 → post r σ1 → W p l e R s m args below meth c H1 locs1 cells slots Q (F0 m (pc + 3) ls (.int r :: rest))) : W p l e R s m args below meth c H locs cells slots Q (F0 m pc ls (As.reverse ++ .ref b :: rest)) := by
  have hf9 := cx_free hw
  refine va_calli (va_runV (As := As) (rest := rest) fx (hM H.size) (cwV n fx.2.2.2.2 cw.1 rfl rfl rfl cw.2 hR) ⟨pw_blind hX, hb, fun U hU hW => ⟨rfl, cx_pre hX hw hU hW⟩⟩ rfl hn hsz rfl (lv_room hst) hdg hf) hw.2.2.2.1 (fun q _ h => hf9 q h) hf9 (fun r u t H1 locs1 ht hvm hq hB hz1 hk1 hS => ?_)
  exact k r u H1 locs1 (cx_back hw ht hB hS) hq
theorem cxJ (hX : XT X) (fx : CallFix p m c cc nL s args GW own) (hw : CX D cl tys (wf σ) X A s H locs) {post : Int64 → SS → Prop} (hM : mJ l y bc mL rt fr lc D cl tys wf X σ (.ref b :: As) post) (cw : CVW own idx C y bc mL rt n) (hb : ∃ cell : Cell, H[b]? = some cell ∧ cell.vm.isStatics = false ∧ s.vm.findClass C = some cell.cls) (hn : As.length = n) (hR : fr + 1 ≤ R.frames ∧ 8 + (mL + 11) + lc ≤ R.locals) (hsz : ls.size = nL) (hst : (rest.map fun v => v.category).sum ≤ 8) (hdg : decode cc pc = .ok (.invokevirtual idx, 3)) (hf : cells ≤ R.cells ∧ slots ≤ R.slots)
    (k : ∀ (r : Int64) (σ1 : SS) (H1 : Heap) (locs1 : List Loc), CX D cl tys (wf σ1) X A s H1 locs1 → post r σ1 → W p l e R s m args below meth c H1 locs1 cells slots Q (F0 m (pc + 3) ls (.long r :: rest))) : W p l e R s m args below meth c H locs cells slots Q (F0 m pc ls (As.reverse ++ .ref b :: rest)) := by
  have hf9 := cx_free hw
  refine va_calll (va_runV (As := As) (rest := rest) fx (hM H.size) (cwV n fx.2.2.2.2 cw.1 rfl rfl rfl cw.2 hR) ⟨pw_blind hX, hb, fun U hU hW => ⟨rfl, cx_pre hX hw hU hW⟩⟩ rfl hn hsz rfl (lv_room hst) hdg hf) hw.2.2.2.1 (fun q _ h => hf9 q h) hf9 (fun r u t H1 locs1 ht hvm hq hB hz1 hk1 hS => ?_)
  exact k r u H1 locs1 (cx_back hw ht hB hS) hq
theorem cxU (hX : XT X) (fx : CallFix p m c cc nL s args GW own) (hw : CX D cl tys (wf σ) X A s H locs) {post : SS → Prop} (hM : mV l y bc mL rt fr lc D cl tys wf X σ (.ref b :: As) post) (cw : CVW own idx C y bc mL rt n) (hb : ∃ cell : Cell, H[b]? = some cell ∧ cell.vm.isStatics = false ∧ s.vm.findClass C = some cell.cls) (hn : As.length = n) (hR : fr + 1 ≤ R.frames ∧ 8 + (mL + 11) + lc ≤ R.locals) (hsz : ls.size = nL) (hst : (rest.map fun v => v.category).sum ≤ 8) (hdg : decode cc pc = .ok (.invokevirtual idx, 3)) (hf : cells ≤ R.cells ∧ slots ≤ R.slots)
    (k : ∀ (σ1 : SS) (H1 : Heap) (locs1 : List Loc), CX D cl tys (wf σ1) X A s H1 locs1 → post σ1 → W p l e R s m args below meth c H1 locs1 cells slots Q (F0 m (pc + 3) ls rest)) : W p l e R s m args below meth c H locs cells slots Q (F0 m pc ls (As.reverse ++ .ref b :: rest)) := by
  have hf9 := cx_free hw
  refine va_callv (va_runV (As := As) (rest := rest) fx (hM H.size) (cwV n fx.2.2.2.2 cw.1 rfl rfl rfl cw.2 hR) ⟨pw_blind hX, hb, fun U hU hW => ⟨rfl, cx_pre hX hw hU hW⟩⟩ rfl hn hsz rfl (lv_room hst) hdg hf) hw.2.2.2.1 (fun q _ h => hf9 q h) hf9 (fun u t H1 locs1 ht hvm hq hB hz1 hk1 hS => ?_)
  exact k u H1 locs1 (cx_back hw ht hB hS) hq
theorem cxSI (hX : XT X) (fx : CallFix p m c cc nL s args GW own) (hw : CX D cl tys (wf σ) X A s H locs) {post : Int32 → SS → Prop} (hM : mI l y bc mL rt fr lc D cl tys wf X σ As post) (cw : CSW own idx y bc mL rt n) (hn : As.length = n) (hR : fr + 1 ≤ R.frames ∧ 8 + (mL + 11) + lc ≤ R.locals) (hsz : ls.size = nL) (hst : (rest.map fun v => v.category).sum ≤ 8) (hdg : decode cc pc = .ok (.invokestatic idx, 3)) (hf : cells ≤ R.cells ∧ slots ≤ R.slots)
    (k : ∀ (r : Int32) (σ1 : SS) (H1 : Heap) (locs1 : List Loc), CX D cl tys (wf σ1) X A s H1 locs1 → post r σ1 → W p l e R s m args below meth c H1 locs1 cells slots Q (F0 m (pc + 3) ls (.int r :: rest))) : W p l e R s m args below meth c H locs cells slots Q (F0 m pc ls (As.reverse ++ rest)) := by
  have hf9 := cx_free hw
  refine va_calli (va_runS (As := As) (rest := rest) fx (hM H.size) (cwS n fx.2.2.2.2 cw.1 rfl rfl rfl cw.2 hR) ⟨pw_blind hX, fun U hU hW => ⟨rfl, cx_pre hX hw hU hW⟩⟩ rfl hn hsz rfl (lv_room hst) hdg hf) hw.2.2.2.1 (fun q _ h => hf9 q h) hf9 (fun r u t H1 locs1 ht hvm hq hB hz1 hk1 hS => ?_)
  exact k r u H1 locs1 (cx_back hw ht hB hS) hq
theorem cxSJ (hX : XT X) (fx : CallFix p m c cc nL s args GW own) (hw : CX D cl tys (wf σ) X A s H locs) {post : Int64 → SS → Prop} (hM : mJ l y bc mL rt fr lc D cl tys wf X σ As post) (cw : CSW own idx y bc mL rt n) (hn : As.length = n) (hR : fr + 1 ≤ R.frames ∧ 8 + (mL + 11) + lc ≤ R.locals) (hsz : ls.size = nL) (hst : (rest.map fun v => v.category).sum ≤ 8) (hdg : decode cc pc = .ok (.invokestatic idx, 3)) (hf : cells ≤ R.cells ∧ slots ≤ R.slots)
    (k : ∀ (r : Int64) (σ1 : SS) (H1 : Heap) (locs1 : List Loc), CX D cl tys (wf σ1) X A s H1 locs1 → post r σ1 → W p l e R s m args below meth c H1 locs1 cells slots Q (F0 m (pc + 3) ls (.long r :: rest))) : W p l e R s m args below meth c H locs cells slots Q (F0 m pc ls (As.reverse ++ rest)) := by
  have hf9 := cx_free hw
  refine va_calll (va_runS (As := As) (rest := rest) fx (hM H.size) (cwS n fx.2.2.2.2 cw.1 rfl rfl rfl cw.2 hR) ⟨pw_blind hX, fun U hU hW => ⟨rfl, cx_pre hX hw hU hW⟩⟩ rfl hn hsz rfl (lv_room hst) hdg hf) hw.2.2.2.1 (fun q _ h => hf9 q h) hf9 (fun r u t H1 locs1 ht hvm hq hB hz1 hk1 hS => ?_)
  exact k r u H1 locs1 (cx_back hw ht hB hS) hq
theorem cxSU (hX : XT X) (fx : CallFix p m c cc nL s args GW own) (hw : CX D cl tys (wf σ) X A s H locs) {post : SS → Prop} (hM : mV l y bc mL rt fr lc D cl tys wf X σ As post) (cw : CSW own idx y bc mL rt n) (hn : As.length = n) (hR : fr + 1 ≤ R.frames ∧ 8 + (mL + 11) + lc ≤ R.locals) (hsz : ls.size = nL) (hst : (rest.map fun v => v.category).sum ≤ 8) (hdg : decode cc pc = .ok (.invokestatic idx, 3)) (hf : cells ≤ R.cells ∧ slots ≤ R.slots)
    (k : ∀ (σ1 : SS) (H1 : Heap) (locs1 : List Loc), CX D cl tys (wf σ1) X A s H1 locs1 → post σ1 → W p l e R s m args below meth c H1 locs1 cells slots Q (F0 m (pc + 3) ls rest)) : W p l e R s m args below meth c H locs cells slots Q (F0 m pc ls (As.reverse ++ rest)) := by
  have hf9 := cx_free hw
  refine va_callv (va_runS (As := As) (rest := rest) fx (hM H.size) (cwS n fx.2.2.2.2 cw.1 rfl rfl rfl cw.2 hR) ⟨pw_blind hX, fun U hU hW => ⟨rfl, cx_pre hX hw hU hW⟩⟩ rfl hn hsz rfl (lv_room hst) hdg hf) hw.2.2.2.1 (fun q _ h => hf9 q h) hf9 (fun u t H1 locs1 ht hvm hq hB hz1 hk1 hS => ?_)
  exact k u H1 locs1 (cx_back hw ht hB hS) hq
end CallRows
-- the ways of a call: each gives its run
section Runs
variable {p : Program} {l : Launch} {e : Env} {R : Room} {s : State} {m : MethodId} {args : Array Value} {below : List Frame} {meth : Method} {c : Code} {H : Heap} {locs : List Loc} {cells slots : Nat}
variable {cc : ByteArray} {nL : Nat} {own : String} {D : va_G} {cl : List vw_C} {tys : List (ClassId × FieldType)} {w : va_W} {X : (Nat → Prop) → State → Prop} {A : Nat → Prop} {pc : Nat} {ls : Array Slot} {rest : List Value} {x y : MethodName} {bc : ByteArray} {mL : Nat} {rt : Option FieldType} {fr lc n idx : Nat} {C owner host : String} {b : Nat} {As : List Value} {Qc : Array Value → State → Outcome → State → Prop} {free : Addr → Prop}
def CXW (own : String) (idx : Nat) (y : MethodName) (bc : ByteArray) (mL : Nat) (rt : Option FieldType) (n : Nat) : Prop :=
  GoodIn GW (va_wsS own idx y (.code y bc mL rt :: GW)) ∧ (y.cls ≠ "java/lang/invoke/MethodHandle" ∧ y.cls ≠ "java/lang/invoke/VarHandle" ∧ (parseMethodDescriptor y.desc).map (fun d => d.parameters.length) = some n)
theorem cxw (h1 : Cond.methodLink own idx y ∈ GW) (h2 : Cond.static y ∈ GW) (h4 : Cond.initialized y.cls ∈ GW) (h5 : Cond.code y bc mL rt ∈ GW) (h6 : y.cls ≠ "java/lang/invoke/MethodHandle" ∧ y.cls ≠ "java/lang/invoke/VarHandle" ∧ (parseMethodDescriptor y.desc).map (fun d => d.parameters.length) = some n) : CXW own idx y bc mL rt n := by
  refine ⟨fun w hw => ?_, h6⟩
  unfold va_wsS at hw
  rcases List.mem_append.mp hw with hw | hw
  · simp only [List.mem_cons, List.not_mem_nil, or_false] at hw
    rcases hw with rfl | rfl | rfl
    · exact gw_g h1
    · exact gw_g h2
    · exact gw_g h4
  · exact gw_cons h5 w hw
/-- a virtual call whose named method another class declares: the words, but for the declaration -/
def CUW (own : String) (idx : Nat) (C owner : String) (x y : MethodName) (bc : ByteArray) (mL : Nat) (rt : Option FieldType) (n : Nat) : Prop :=
  (Cond.methodLink own idx x ∈ GW ∧ Cond.sameMethod x.cls owner x.name x.desc ∈ GW ∧ Cond.selects C x y ∈ GW ∧ Cond.instanceMethod y ∈ GW ∧ Cond.initialized y.cls ∈ GW ∧ Cond.code y bc mL rt ∈ GW) ∧ (owner ≠ "java/lang/invoke/MethodHandle" ∧ owner ≠ "java/lang/invoke/VarHandle" ∧ (parseMethodDescriptor x.desc).map (fun d => d.parameters.length) = some n)
theorem decl_c {z : MethodName} {b0 : ByteArray} {m0 : Nat} {r0 : Option FieldType} (fx : CallFix p m c cc nL s args GW own) (h1 : Cond.instanceMethod z ∈ GW) (h2 : Cond.code z b0 m0 r0 ∈ GW) : va_Decl s z := va_Decl.of (fx.2.2.2.2 _ h1) (fx.2.2.2.2 _ h2)
theorem decl_a {z : MethodName} (fx : CallFix p m c cc nL s args GW own) (h1 : Cond.declares z ∈ GW) : va_Decl s z := by
  have hz := fx.2.2.2.2 _ h1
  obtain ⟨m, meth, h1, h2, h3, h4⟩ := Cond.declares_spec hz
  exact ⟨m, meth, h1, h2, h3, h4⟩
def CPW (own : String) (idx : Nat) (y : MethodName) (bc : ByteArray) (mL : Nat) (rt : Option FieldType) (n : Nat) : Prop :=
  GoodIn GW (va_wsSU own idx y (.code y bc mL rt :: GW)) ∧ (y.name ≠ "<init>" ∧ (parseMethodDescriptor y.desc).map (fun d => d.parameters.length) = some n)
theorem cpw (h1 : Cond.methodLink own idx y ∈ GW) (h2 : Cond.sameMethod y.cls y.cls y.name y.desc ∈ GW) (h3 : Cond.superclass own y.cls ∈ GW) (h4 : Cond.instanceMethod y ∈ GW) (h5 : Cond.initialized y.cls ∈ GW) (h6 : Cond.code y bc mL rt ∈ GW) (h7 : y.name ≠ "<init>" ∧ (parseMethodDescriptor y.desc).map (fun d => d.parameters.length) = some n) : CPW own idx y bc mL rt n := by
  refine ⟨fun w hw => ?_, h7⟩
  unfold va_wsSU at hw
  rcases List.mem_append.mp hw with hw | hw
  · simp only [List.mem_cons, List.not_mem_nil, or_false] at hw
    rcases hw with rfl | rfl | rfl | rfl | rfl
    · exact gw_g h1
    · exact gw_g h2
    · exact gw_g h3
    · exact gw_g h4
    · exact gw_g h5
  · exact gw_cons h6 w hw
theorem rnV (hX : XT X) (fx : CallFix p m c cc nL s args GW own) (hw : CX D cl tys w X A s H locs) (hM : Met l y (.code y bc mL rt :: GW) { frames := fr, cells := 0, slots := 0, locals := lc } (va_Pc (.ref b :: As) (PreW D cl tys w X H.size)) Qc 0 0 free) (cw : CVW own idx C y bc mL rt n) (hb : ∃ cell : Cell, H[b]? = some cell ∧ cell.vm.isStatics = false ∧ s.vm.findClass C = some cell.cls) (hn : As.length = n) (hR : fr + 1 ≤ R.frames ∧ 8 + (mL + 11) + lc ≤ R.locals) (hsz : ls.size = nL) (hst : (rest.map fun v => v.category).sum ≤ 8) (hdg : decode cc pc = .ok (.invokevirtual idx, 3)) (hf : cells ≤ R.cells ∧ slots ≤ R.slots) :
    va_Run p l e R s m args below meth c H locs cells slots 0 0 (F0 m pc ls (As.reverse ++ .ref b :: rest)) rest (Qc (Value.ref b :: As).toArray) free :=
  va_runV (As := As) (rest := rest) fx hM (cwV n fx.2.2.2.2 cw.1 rfl rfl rfl cw.2 hR) ⟨pw_blind hX, hb, fun U hU hW => ⟨rfl, cx_pre hX hw hU hW⟩⟩ rfl hn hsz rfl (lv_room hst) hdg hf
theorem rnU (hX : XT X) (fx : CallFix p m c cc nL s args GW own) (hw : CX D cl tys w X A s H locs) (hM : Met l y (.code y bc mL rt :: GW) { frames := fr, cells := 0, slots := 0, locals := lc } (va_Pc (.ref b :: As) (PreW D cl tys w X H.size)) Qc 0 0 free) (cw : CUW own idx C owner x y bc mL rt n) (hdc : va_Decl s ⟨owner, x.name, x.desc⟩) (hb : ∃ cell : Cell, H[b]? = some cell ∧ cell.vm.isStatics = false ∧ s.vm.findClass C = some cell.cls) (hn : As.length = n) (hR : fr + 1 ≤ R.frames ∧ 8 + (mL + 11) + lc ≤ R.locals) (hsz : ls.size = nL) (hst : (rest.map fun v => v.category).sum ≤ 8) (hdg : decode cc pc = .ok (.invokevirtual idx, 3)) (hf : cells ≤ R.cells ∧ slots ≤ R.slots) :
    va_Run p l e R s m args below meth c H locs cells slots 0 0 (F0 m pc ls (As.reverse ++ .ref b :: rest)) rest (Qc (Value.ref b :: As).toArray) free := by
  obtain ⟨⟨h1, h2, h3, h4, h5, h6⟩, h7, h8, h9⟩ := cw
  have ok := fx.2.2.2.2
  refine va_runU (x := x) (owner := owner) (C := C) (As := As) (rest := rest) fx hM ⟨⟨rfl, rfl, hR.1, hR.2, pay_in ok (gw_cons h6), List.mem_cons_self⟩, ok _ h6, ok _ h5, ⟨h7, h8⟩, fun sig h => ?_, ok _ h1, ok _ h2, hdc, ok _ h3, ok _ h4⟩ ⟨pw_blind hX, hb, fun U hU hW => ⟨rfl, cx_pre hX hw hU hW⟩⟩ rfl hn hsz rfl (lv_room hst) hdg hf
  rw [h] at h9
  exact (Option.some.inj h9).symm
theorem rnS (hX : XT X) (fx : CallFix p m c cc nL s args GW own) (hw : CX D cl tys w X A s H locs) (hM : Met l y (.code y bc mL rt :: GW) { frames := fr, cells := 0, slots := 0, locals := lc } (va_Pc As (PreW D cl tys w X H.size)) Qc 0 0 free) (cw : CXW own idx y bc mL rt n) (hn : As.length = n) (hR : fr + 1 ≤ R.frames ∧ 8 + (mL + 11) + lc ≤ R.locals) (hsz : ls.size = nL) (hst : (rest.map fun v => v.category).sum ≤ 8) (hdg : decode cc pc = .ok (.invokestatic idx, 3)) (hf : cells ≤ R.cells ∧ slots ≤ R.slots) :
    va_Run p l e R s m args below meth c H locs cells slots 0 0 (F0 m pc ls (As.reverse ++ rest)) rest (Qc As.toArray) free :=
  va_runS (As := As) (rest := rest) fx hM (va_cwS n fx.2.2.2.2 cw.1 rfl rfl rfl cw.2 hR) ⟨pw_blind hX, fun U hU hW => ⟨rfl, cx_pre hX hw hU hW⟩⟩ rfl hn hsz rfl (lv_room hst) hdg hf
theorem rnN (hX : XT X) (fx : CallFix p m c cc nL s args GW own) (hw : CX D cl tys w X A s H locs) (hM : Met l y (.code y bc mL rt :: GW) { frames := fr, cells := 0, slots := 0, locals := lc } (va_Pc As (PreW D cl tys w X H.size)) Qc 0 0 free) (hnw : va_Nw (.methodLinkNest own idx y host) s) (h2 : Cond.static y ∈ GW) (h4 : Cond.initialized y.cls ∈ GW) (h5 : Cond.code y bc mL rt ∈ GW) (h6 : y.cls ≠ "java/lang/invoke/MethodHandle" ∧ y.cls ≠ "java/lang/invoke/VarHandle" ∧ (parseMethodDescriptor y.desc).map (fun d => d.parameters.length) = some n) (hn : As.length = n) (hR : fr + 1 ≤ R.frames ∧ 8 + (mL + 11) + lc ≤ R.locals) (hsz : ls.size = nL) (hst : (rest.map fun v => v.category).sum ≤ 8) (hdg : decode cc pc = .ok (.invokestatic idx, 3)) (hf : cells ≤ R.cells ∧ slots ≤ R.slots) :
    va_Run p l e R s m args below meth c H locs cells slots 0 0 (F0 m pc ls (As.reverse ++ rest)) rest (Qc As.toArray) free :=
  va_runSN (As := As) (rest := rest) fx hM ⟨va_cnB n fx.2.2.2.2 (gw_cons h5) rfl rfl rfl hnw (fx.2.2.2.2 _ h4) h6 hR, fx.2.2.2.2 _ h2, trivial⟩ ⟨pw_blind hX, fun U hU hW => ⟨rfl, cx_pre hX hw hU hW⟩⟩ rfl hn hsz rfl (lv_room hst) hdg hf
theorem rnP {cC : ClassId} (hat : ClassAt s C cC) (hX : XT X) (fx : CallFix p m c cc nL s args GW own) (hw : CX D cl tys w X A s H locs) (hM : Met l y (.code y bc mL rt :: GW) { frames := fr, cells := 0, slots := 0, locals := lc } (va_Pc (.ref b :: As) (PreW D cl tys w X H.size)) Qc 0 0 free) (cw : CPW own idx y bc mL rt n) (hb : ∃ cell : Cell, H[b]? = some cell ∧ cell.vm.isStatics = false ∧ s.vm.findClass C = some cell.cls) (hn : As.length = n) (hR : fr + 1 ≤ R.frames ∧ 8 + (mL + 11) + lc ≤ R.locals) (hsz : ls.size = nL) (hst : (rest.map fun v => v.category).sum ≤ 8) (hdg : decode cc pc = .ok (.invokespecial idx, 3)) (hf : cells ≤ R.cells ∧ slots ≤ R.slots) :
    va_Run p l e R s m args below meth c H locs cells slots 0 0 (F0 m pc ls (As.reverse ++ .ref b :: rest)) rest (Qc (Value.ref b :: As).toArray) free :=
  va_runSU (As := As) (rest := rest) hat fx hM (va_cwSU n fx.2.2.2.2 cw.1 rfl rfl rfl cw.2 hR) ⟨pw_blind hX, hb, fun U hU hW => ⟨rfl, cx_pre hX hw hU hW⟩⟩ rfl hn hsz rfl (lv_room hst) hdg hf
end Runs
/-- an answer that is a reference, told by a number -/
def va_Qn (vf : Nat → Value) (post : Nat → SS → Prop) (B : SS → State → Prop) (A : Nat → Prop) : Array Value → State → Outcome → State → Prop := fun _ st oc t => (∃ (r : Nat) (u : SS), oc = .returned (some (vf r)) ∧ post r u ∧ B u t) ∧ va_F A st t
def mN (vf : Nat → Value) (l : Launch) (y : MethodName) (bc : ByteArray) (mL : Nat) (rt : Option FieldType) (fr lc : Nat) (D : va_G) (cl : List vw_C) (tys : List (ClassId × FieldType)) (wf : SS → va_W) (X : (Nat → Prop) → State → Prop) (σ : SS) (av : List Value) (post : Nat → SS → Prop) : Prop :=
  ∀ sz, Met l y (.code y bc mL rt :: GW) { frames := fr, cells := 0, slots := 0, locals := lc } (va_Pc av (PreW D cl tys (wf σ) X sz)) (va_Qn vf post (PostW D cl tys wf (va_A (wf σ) sz)) (va_A (wf σ) sz)) 0 0 (va_A (wf σ) sz)
section Res
variable {p : Program} {l : Launch} {e : Env} {R : Room} {s : State} {m : MethodId} {args : Array Value} {below : List Frame} {meth : Method} {c : Code} {H : Heap} {locs : List Loc} {cells slots : Nat} {Q : State → Prop}
variable {D : va_G} {cl : List vw_C} {tys : List (ClassId × FieldType)} {wf : SS → va_W} {X : (Nat → Prop) → State → Prop} {A : Nat → Prop} {σ : SS} {pc : Nat} {ls : Array Slot} {rest st0 : List Value} {av : Array Value}
theorem rsI {post : Int32 → SS → Prop} (hw : CX D cl tys (wf σ) X A s H locs) (hr : va_Run p l e R s m args below meth c H locs cells slots 0 0 (F0 m pc ls st0) rest (va_Qi post (PostW D cl tys wf (va_A (wf σ) H.size)) (va_A (wf σ) H.size) av) (va_A (wf σ) H.size))
    (k : ∀ (r : Int32) (σ1 : SS) (H1 : Heap) (locs1 : List Loc), CX D cl tys (wf σ1) X A s H1 locs1 → post r σ1 → W p l e R s m args below meth c H1 locs1 cells slots Q (F0 m (pc + 3) ls (.int r :: rest))) : W p l e R s m args below meth c H locs cells slots Q (F0 m pc ls st0) := by
  have hf9 := cx_free hw
  exact va_calli hr hw.2.2.2.1 (fun q _ h => hf9 q h) hf9 (fun r u t H1 locs1 ht hvm hq hB hz1 hk1 hS => k r u H1 locs1 (cx_back hw ht hB hS) hq)
theorem rsJ {post : Int64 → SS → Prop} (hw : CX D cl tys (wf σ) X A s H locs) (hr : va_Run p l e R s m args below meth c H locs cells slots 0 0 (F0 m pc ls st0) rest (va_Ql post (PostW D cl tys wf (va_A (wf σ) H.size)) (va_A (wf σ) H.size) av) (va_A (wf σ) H.size))
    (k : ∀ (r : Int64) (σ1 : SS) (H1 : Heap) (locs1 : List Loc), CX D cl tys (wf σ1) X A s H1 locs1 → post r σ1 → W p l e R s m args below meth c H1 locs1 cells slots Q (F0 m (pc + 3) ls (.long r :: rest))) : W p l e R s m args below meth c H locs cells slots Q (F0 m pc ls st0) := by
  have hf9 := cx_free hw
  exact va_calll hr hw.2.2.2.1 (fun q _ h => hf9 q h) hf9 (fun r u t H1 locs1 ht hvm hq hB hz1 hk1 hS => k r u H1 locs1 (cx_back hw ht hB hS) hq)
theorem rsV {post : SS → Prop} (hw : CX D cl tys (wf σ) X A s H locs) (hr : va_Run p l e R s m args below meth c H locs cells slots 0 0 (F0 m pc ls st0) rest (va_Qv post (PostW D cl tys wf (va_A (wf σ) H.size)) (va_A (wf σ) H.size) av) (va_A (wf σ) H.size))
    (k : ∀ (σ1 : SS) (H1 : Heap) (locs1 : List Loc), CX D cl tys (wf σ1) X A s H1 locs1 → post σ1 → W p l e R s m args below meth c H1 locs1 cells slots Q (F0 m (pc + 3) ls rest)) : W p l e R s m args below meth c H locs cells slots Q (F0 m pc ls st0) := by
  have hf9 := cx_free hw
  exact va_callv hr hw.2.2.2.1 (fun q _ h => hf9 q h) hf9 (fun u t H1 locs1 ht hvm hq hB hz1 hk1 hS => k u H1 locs1 (cx_back hw ht hB hS) hq)
theorem rsN {vf : Nat → Value} {post : Nat → SS → Prop} (hw : CX D cl tys (wf σ) X A s H locs) (hr : va_Run p l e R s m args below meth c H locs cells slots 0 0 (F0 m pc ls st0) rest (va_Qn vf post (PostW D cl tys wf (va_A (wf σ) H.size)) (va_A (wf σ) H.size) av) (va_A (wf σ) H.size))
    (k : ∀ (r : Nat) (σ1 : SS) (H1 : Heap) (locs1 : List Loc), CX D cl tys (wf σ1) X A s H1 locs1 → post r σ1 → W p l e R s m args below meth c H1 locs1 cells slots Q (F0 m (pc + 3) ls (vf r :: rest))) : W p l e R s m args below meth c H locs cells slots Q (F0 m pc ls st0) := by
  have hf9 := cx_free hw
  have hS := hw.2.2.2.1
  intro T hT XX
  obtain ⟨v, st₀, t, T', L, h0, X', hL, e1, e2, ⟨⟨r, u, hv, hp, hb⟩, hz, hk⟩, st⟩ := hr T hT XX
  cases hv
  rw [h0] at hz hk
  obtain ⟨t2, a1, b1⟩ := k r u T'.heap (locs ++ L) (cx_back hw e1.symm hb
    ⟨Nat.le_trans hS.1 (by rw [e1]; exact hz), fun q h1 h2 => by rw [e1, hk q (Nat.lt_of_lt_of_le h1 hS.1) (fun z => h2 (hf9 q z))]; exact hS.2.1 q h1 h2, fun q hq => by
      rcases List.mem_append.mp hq with h | h
      · exact hS.2.2 q h
      · exact hf9 _ (hL q h)⟩) hp T' rfl X'
  exact ⟨t2, st t2 a1, b1⟩
end Res
section Rets
variable (p : Program) (l : Launch) (e : Env) (R : Room) (s : State) (m : MethodId) (args : Array Value) (below : List Frame) (meth : Method) (c : Code) (Q : State → Prop)
variable (D : va_G) (cl : List vw_C) (tys : List (ClassId × FieldType)) (wf : SS → va_W) (X : (Nat → Prop) → State → Prop) (A : Nat → Prop)
/-- what is had at a return: an int of the type ty, a long, nothing -/
def RetI (bc : ByteArray) (ty : FieldType) (post : Int32 → SS → Prop) : Prop := ∀ {r : Int32} {σ : SS} {H : Heap} {locs : List Loc} {pc : Nat} {ls : Array Slot}, narrow ty (.int r) = .int r → decode bc pc = .ok (.ireturn, 1) → post r σ → CX D cl tys (wf σ) X A s H locs → W p l e R s m args below meth c H locs 0 0 Q (F0 m pc ls [.int r])
def RetJ (bc : ByteArray) (post : Int64 → SS → Prop) : Prop := ∀ {r : Int64} {σ : SS} {H : Heap} {locs : List Loc} {pc : Nat} {ls : Array Slot}, decode bc pc = .ok (.lreturn, 1) → post r σ → CX D cl tys (wf σ) X A s H locs → W p l e R s m args below meth c H locs 0 0 Q (F0 m pc ls [.long r])
def RetV (bc : ByteArray) (post : SS → Prop) : Prop := ∀ {σ : SS} {H : Heap} {locs : List Loc} {pc : Nat} {ls : Array Slot}, decode bc pc = .ok (.return_, 1) → post σ → CX D cl tys (wf σ) X A s H locs → W p l e R s m args below meth c H locs 0 0 Q (F0 m pc ls [])
def RetN (bc : ByteArray) (vf : Nat → Value) (post : Nat → SS → Prop) : Prop := ∀ {r : Nat} {σ : SS} {H : Heap} {locs : List Loc} {pc : Nat} {ls : Array Slot}, decode bc pc = .ok (.areturn, 1) → post r σ → CX D cl tys (wf σ) X A s H locs → W p l e R s m args below meth c H locs 0 0 Q (F0 m pc ls [vf r])
end Rets
theorem cx_start {D : va_G} {cl : List vw_C} {tys : List (ClassId × FieldType)} {w : va_W} {X : (Nat → Prop) → State → Prop} {sz : Nat} {s : State} (h : PreW D cl tys w X sz s) : CX D cl tys w X (va_A w sz) s s.heap [] := by
  obtain ⟨hz, hP, hK, hD, hX⟩ := h
  exact ⟨hK, hP, hD.self, va_S.rf, fun q h => Or.inr (by rw [← hz]; exact h), hX⟩
theorem cx_end {D : va_G} {cl : List vw_C} {tys : List (ClassId × FieldType)} {wf : SS → va_W} {X : (Nat → Prop) → State → Prop} {A : Nat → Prop} {s t : State} {H : Heap} {locs : List Loc} {σ : SS} (hw : CX D cl tys (wf σ) X A s H locs) (ht : t.heap = H) (hW : s.vm.Alike t.vm) : PostW D cl tys wf A σ t := by
  obtain ⟨hK, hP, hD, -, -, -⟩ := hw
  subst ht
  exact ⟨hP, va_K.moved hW hK, hD⟩
section Mets
variable {l : Launch} {y : MethodName} {bc : ByteArray} {mL : Nat} {fr lc : Nat} {D : va_G} {cl : List vw_C} {tys : List (ClassId × FieldType)} {wf : SS → va_W} {X : (Nat → Prop) → State → Prop} {σ : SS} {av : List Value}
theorem met_I {ty : FieldType} {post : Int32 → SS → Prop} (hy : plainName y.cls = true) (ha : (lg_sl av).length ≤ mL)
    (body : ∀ (p : Program) (e : Env) (s : State) (m : MethodId) (args : Array Value) (below : List Frame) (meth : Method) (c : Code) (A : Nat → Prop) (Q : State → Prop), CallFix p m c bc mL s args GW y.cls → RetI p l e { frames := fr, cells := 0, slots := 0, locals := lc } s m args below meth c Q D cl tys wf X A bc ty post → ∀ (H : Heap) (ls : Array Slot), CX D cl tys (wf σ) X A s H [] → lv_has ls mL (lv_args 0 av) → W p l e { frames := fr, cells := 0, slots := 0, locals := lc } s m args below meth c H [] 0 0 Q (F0 m 0 ls [])) :
    mI l y bc mL (some ty) fr lc D cl tys wf X σ av post := by
  intro sz
  refine Met.ofW (cc := bc) (maxL := mL) (ret := some ty) hy rfl ?_
  intro p e s m args below meth c s₁ B hml hv
  obtain ⟨rfl, hv⟩ := hv
  have hlocks := B.notSynchronized
  have hl := lv_entry av (n := mL) ha
  rw [lg_entry_eq]
  refine body p e s m _ below meth c _ _ ⟨B.exec, B.bytes, hml, findClass_of_methodNamed B.named, gw_hts (atoms_spec (ws := .code y bc mL (some ty) :: GW) B.pre)⟩ ?_ s.heap _ (cx_start hv) hl
  intro r σ1 H locs pc ls hn hd hp hw
  exact W.zret B.exec B.bytes B.returns hn (fun t ht hW => ⟨⟨r, σ1, rfl, hp, cx_end hw ht hW.alike⟩, hw.2.2.2.1.F ht⟩) hw.2.2.2.1.2.2 hd
theorem met_J {post : Int64 → SS → Prop} (hy : plainName y.cls = true) (ha : (lg_sl av).length ≤ mL)
    (body : ∀ (p : Program) (e : Env) (s : State) (m : MethodId) (args : Array Value) (below : List Frame) (meth : Method) (c : Code) (A : Nat → Prop) (Q : State → Prop), CallFix p m c bc mL s args GW y.cls → RetJ p l e { frames := fr, cells := 0, slots := 0, locals := lc } s m args below meth c Q D cl tys wf X A bc post → ∀ (H : Heap) (ls : Array Slot), CX D cl tys (wf σ) X A s H [] → lv_has ls mL (lv_args 0 av) → W p l e { frames := fr, cells := 0, slots := 0, locals := lc } s m args below meth c H [] 0 0 Q (F0 m 0 ls [])) :
    mJ l y bc mL (some .long) fr lc D cl tys wf X σ av post := by
  intro sz
  refine Met.ofW (cc := bc) (maxL := mL) (ret := some .long) hy rfl ?_
  intro p e s m args below meth c s₁ B hml hv
  obtain ⟨rfl, hv⟩ := hv
  have hlocks := B.notSynchronized
  have hl := lv_entry av (n := mL) ha
  rw [lg_entry_eq]
  refine body p e s m _ below meth c _ _ ⟨B.exec, B.bytes, hml, findClass_of_methodNamed B.named, gw_hts (atoms_spec (ws := .code y bc mL (some .long) :: GW) B.pre)⟩ ?_ s.heap _ (cx_start hv) hl
  intro r σ1 H locs pc ls hd hp hw
  exact W.lret B.exec B.bytes B.returns (fun t ht hW => ⟨⟨r, σ1, rfl, hp, cx_end hw ht hW.alike⟩, hw.2.2.2.1.F ht⟩) hw.2.2.2.1.2.2 hd
theorem met_V {post : SS → Prop} (hy : plainName y.cls = true) (ha : (lg_sl av).length ≤ mL)
    (body : ∀ (p : Program) (e : Env) (s : State) (m : MethodId) (args : Array Value) (below : List Frame) (meth : Method) (c : Code) (A : Nat → Prop) (Q : State → Prop), CallFix p m c bc mL s args GW y.cls → RetV p l e { frames := fr, cells := 0, slots := 0, locals := lc } s m args below meth c Q D cl tys wf X A bc post → ∀ (H : Heap) (ls : Array Slot), CX D cl tys (wf σ) X A s H [] → lv_has ls mL (lv_args 0 av) → W p l e { frames := fr, cells := 0, slots := 0, locals := lc } s m args below meth c H [] 0 0 Q (F0 m 0 ls [])) :
    mV l y bc mL none fr lc D cl tys wf X σ av post := by
  intro sz
  refine Met.ofW (cc := bc) (maxL := mL) (ret := none) hy rfl ?_
  intro p e s m args below meth c s₁ B hml hv
  obtain ⟨rfl, hv⟩ := hv
  have hlocks := B.notSynchronized
  have hl := lv_entry av (n := mL) ha
  rw [lg_entry_eq]
  refine body p e s m _ below meth c _ _ ⟨B.exec, B.bytes, hml, findClass_of_methodNamed B.named, gw_hts (atoms_spec (ws := .code y bc mL none :: GW) B.pre)⟩ ?_ s.heap _ (cx_start hv) hl
  intro σ1 H locs pc ls hd hp hw
  exact W.vret B.exec B.bytes B.returns (fun t ht hW => ⟨⟨σ1, rfl, hp, cx_end hw ht hW.alike⟩, hw.2.2.2.1.F ht⟩) hw.2.2.2.1.2.2 hd
theorem met_N {vf : Nat → Value} {oc : String} {post : Nat → SS → Prop} (hvf : ∀ r, vf r = .null ∨ ∃ a, vf r = .ref a) (hy : plainName y.cls = true) (ha : (lg_sl av).length ≤ mL)
    (body : ∀ (p : Program) (e : Env) (s : State) (m : MethodId) (args : Array Value) (below : List Frame) (meth : Method) (c : Code) (A : Nat → Prop) (Q : State → Prop), CallFix p m c bc mL s args GW y.cls → RetN p l e { frames := fr, cells := 0, slots := 0, locals := lc } s m args below meth c Q D cl tys wf X A bc vf post → ∀ (H : Heap) (ls : Array Slot), CX D cl tys (wf σ) X A s H [] → lv_has ls mL (lv_args 0 av) → W p l e { frames := fr, cells := 0, slots := 0, locals := lc } s m args below meth c H [] 0 0 Q (F0 m 0 ls [])) :
    mN vf l y bc mL (some (.object oc)) fr lc D cl tys wf X σ av post := by
  intro sz
  refine Met.ofW (cc := bc) (maxL := mL) (ret := some (.object oc)) hy rfl ?_
  intro p e s m args below meth c s₁ B hml hv
  obtain ⟨rfl, hv⟩ := hv
  have hlocks := B.notSynchronized
  have hl := lv_entry av (n := mL) ha
  rw [lg_entry_eq]
  refine body p e s m _ below meth c _ _ ⟨B.exec, B.bytes, hml, findClass_of_methodNamed B.named, gw_hts (atoms_spec (ws := .code y bc mL (some (.object oc)) :: GW) B.pre)⟩ ?_ s.heap _ (cx_start hv) hl
  intro r σ1 H locs pc ls hd hp hw
  exact W.aret B.exec B.bytes B.returns (Or.inl ⟨oc, rfl⟩) (hvf r) (fun t ht hW => ⟨⟨r, σ1, rfl, hp, cx_end hw ht hW.alike⟩, hw.2.2.2.1.F ht⟩) hw.2.2.2.1.2.2 hd
end Mets
section Sets
variable {p : Program} {l : Launch} {e : Env} {R : Room} {s : State} {m : MethodId} {args : Array Value} {below : List Frame} {meth : Method} {c : Code} {H : Heap} {locs : List Loc} {cells slots : Nat} {Q : State → Prop}
variable {cc : ByteArray} {D : va_G} {cl : List vw_C} {tys : List (ClassId × FieldType)} {X : (Nat → Prop) → State → Prop} {A : Nat → Prop} {pc : Nat} {ls : Array Slot} {rest : List Value}
/-- a world whose cell q0 is an object: a field is read, is written; whose cell is a row: a place is read, is written -/
theorem cx_get {own ref C : String} {nL : Nat} {T : u_T} {N ci index a : Nat} {w : va_W} {fs : List Value} (q0 k : Nat) {v : Value} (hin : ∀ w ∈ u_ws C T N, w ∈ GW) (he : w[q0]? = some (a, .inr (ci, fs))) (hc : cl[ci]? = some (C, T, N)) (hk : k < N) (hv : fs[k]? = some v) (hsame : ∀ x, s.fieldFound? (T k).1 (T k).2.1 (T k).2.2.1 = some x → s.fieldFound? ref (T k).2.1 (T k).2.2.1 = some x) (fx : CallFix p m c cc nL s args GW own) (hw : CX D cl tys w X A s H locs) (hlink : Cond.fieldLink own index ref (T k).2.1 (T k).2.2.1 ∈ GW) (hdg : decode cc pc = .ok (.getfield index, 3))
    (kk : W p l e R s m args below meth c H locs cells slots Q (F0 m (pc + 3) ls (v :: rest))) : W p l e R s m args below meth c H locs cells slots Q (F0 m pc ls (.ref a :: rest)) :=
  va_get (D := D) fx.1 fx.2.1 fx.2.2.2.2 hin fx.2.2.2.1 hw.1 hw.2.1 q0 he hc k hk (fx.2.2.2.2 _ hlink) hsame hv hdg kk
theorem cx_put {own ref C : String} {nL : Nat} {T : u_T} {ty0 : Nat → FieldType} {N ci index a : Nat} {w w1 : va_W} {fs : List Value} (q0 k : Nat) {ty : FieldType} {v : Value} (hin : ∀ w ∈ u_ws C T N, w ∈ GW) (hty : ∀ k, k < N → parseFieldDescriptor (T k).2.2.1 = some (ty0 k)) (hnm : ∀ a, a < N → ∀ b, b < N → a ≠ b → (T a).2.1 ≠ (T b).2.1) (he : w[q0]? = some (a, .inr (ci, fs))) (hc : cl[ci]? = some (C, T, N)) (hk : k < N) (hl : k < fs.length) (hfin : (T k).2.2.2 = false) (hd : parseFieldDescriptor (T k).2.2.1 = some ty) (hw1 : w.set q0 (a, .inr (ci, fs.set k v)) = w1) (hsame : ∀ x, s.fieldFound? (T k).1 (T k).2.1 (T k).2.2.1 = some x → s.fieldFound? ref (T k).2.1 (T k).2.2.1 = some x) (hn : narrow ty v = v) (hfit : fits ty v = true) (fx : CallFix p m c cc nL s args GW own) (hw : CX D cl tys w X A s H locs) (hlink : Cond.fieldLink own index ref (T k).2.1 (T k).2.2.1 ∈ GW) (hdg : decode cc pc = .ok (.putfield index, 3))
    (kk : ∀ (H1 : Heap) (locs1 : List Loc), CX D cl tys w1 X A s H1 locs1 → W p l e R s m args below meth c H1 locs1 cells slots Q (F0 m (pc + 3) ls rest)) : W p l e R s m args below meth c H locs cells slots Q (F0 m pc ls (v :: .ref a :: rest)) :=
  va_put (D := D) fx.1 fx.2.1 fx.2.2.2.2 hin ty0 hty hnm fx.2.2.2.1 hw.1 hw.2.1 hw.2.2.1 hw.2.2.2.1 q0 he hc k hk (fx.2.2.2.2 _ hlink) hsame hfin hd hn hfit hl hdg (fun H1 locs1 hP hD hS => kk H1 locs1 ⟨hw.1, hw1 ▸ hP, hw1 ▸ hD, hS, hw.2.2.2.2.1, hw.2.2.2.2.2⟩)
end Sets
