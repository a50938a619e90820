/-! the two that throw: require, requireRoom -/
def xcn (k : Nat) : String := if k = 1 then "java/lang/IllegalArgumentException" else "java/lang/IllegalStateException"
/-- an exception of kind k stands at x -/
def ExAt (k x : Nat) (s : State) (H : Heap) : Prop := ∃ cell : Cell, H[x]? = some cell ∧ cell.vm.isStatics = false ∧ s.vm.findClass (xcn k) = some cell.cls
def QT (D : va_G) (cl : List vw_C) (tys : List (ClassId × FieldType)) (wf : SS → va_W) (A : Nat → Prop) (rf : Int32 → Option Value) (post : Int32 → SS → Prop) (pt : Nat → SS → Prop) : Array Value → State → Outcome → State → Prop := fun _ st oc t =>
  ((∃ (r : Int32) (u : SS), oc = .returned (rf r) ∧ post r u ∧ PostW D cl tys wf A u t) ∨ (∃ (x k : Nat) (u : SS), oc = .threw x ∧ pt k u ∧ PostW D cl tys wf A u t ∧ ExAt k x t t.heap ∧ st.heap.size ≤ x)) ∧ va_F A st t
def mT (rf : Int32 → Option Value) (l : Launch) (y : MethodName) (bc : ByteArray) (mL : Nat) (rt : Option FieldType) (fr mc ms lc : Nat) (D : va_G) (cl : List vw_C) (tys : List (ClassId × FieldType)) (wf : SS → va_W) (X : (Nat → Prop) → State → Prop) (σ : SS) (av : List Value) (post : Int32 → SS → Prop) (pt : Nat → SS → Prop) : Prop :=
  ∀ sz, MetX l y (.code y bc mL rt :: GW) { frames := fr, cells := mc, slots := ms, locals := lc } (va_Pc av (PreW D cl tys (wf σ) X sz)) (QT D cl tys wf (va_A (wf σ) sz) rf post pt) mc ms (va_A (wf σ) sz)
theorem same_nil {s t : State} {k n : Nat} (h : s.sameButNew ({ t with vm := s.vm } : State) [] k n) : ∀ q : Nat, q < s.heap.size → t.heap[q]? = s.heap[q]? := by
  obtain ⟨-, -, -, -, -, h6⟩ := h
  intro q hq
  obtain ⟨c, hc⟩ : ∃ c, s.heap[q]? = some c := ⟨s.heap[q], by simp [hq]⟩
  obtain ⟨c', h1, h2, h3, h4⟩ := h6 q c hc
  have h1' : t.heap[q]? = some c' := h1
  rw [h1', hc]
  have hs : c'.slots = c.slots := by
    apply Array.ext_getElem?
    intro i
    exact h4 i (by simp)
  rw [h2, hs]
theorem isRef_of_Zq {C n d : String} {A : Nat → Prop} {s : State} {args : Array Value} (h : va_Zq C n d A s s.heap) : (Cond.isRef (.static C n d)).before args s = true := by
  have key : ∀ v : Value, va_Z C n d v A s s.heap → (Term.static C n d).eval args s none [] s = some v := by
    intro v h
    obtain ⟨cf, kf, fi, f, a, cell, h1, h2, h3, h4, h5, h6, h7, -⟩ := h
    exact Term.static_eval h1 h2 h4 h5 h6 h7
  rcases h with h | ⟨t, h⟩
  · simp [Cond.before, Cond.holds, Cond.value, key _ h]
  · simp [Cond.before, Cond.holds, Cond.value, key _ h]
def th_sp (k : Nat) : List Cond := [.declares ⟨"java/lang/RuntimeException", "<init>", "()V"⟩, .declares ⟨"java/lang/Exception", "<init>", "()V"⟩, .declares ⟨"java/lang/Throwable", "<init>", "()V"⟩, .castable (xcn k) (xcn k), .isRef (.static "java/lang/Throwable" "UNASSIGNED_STACK" "[Ljava/lang/StackTraceElement;"), .isRef (.static "java/lang/Throwable" "SUPPRESSED_SENTINEL" "Ljava/util/List;"), .laysStatic "java/lang/Throwable" "UNASSIGNED_STACK" "[Ljava/lang/StackTraceElement;", .laysStatic "java/lang/Throwable" "SUPPRESSED_SENTINEL" "Ljava/util/List;"]
theorem th_in1 : (Bundle.ownAtoms0 "NovaDesk" 147 (xcn 1) ["java/lang/RuntimeException", "java/lang/Exception"]).all (fun w => (goodWord w && decide (w ∈ tables_1)) || decide (w ∈ th_sp 1)) = true := by decide +kernel
theorem th_in2 : (Bundle.ownAtoms0 "NovaDesk" 150 (xcn 2) ["java/lang/RuntimeException", "java/lang/Exception"]).all (fun w => (goodWord w && decide (w ∈ tables_1)) || decide (w ∈ th_sp 2)) = true := by decide +kernel
theorem th_atoms {L : List Cond} {k : Nat} {ad : Nat → Nat → Nat} {A : Nat → Prop} {s : State} {args : Array Value} (hk : k = 1 ∨ k = 2) (hL : L.all (fun w => (goodWord w && decide (w ∈ tables_1)) || decide (w ∈ th_sp k)) = true) (hG : ∀ w ∈ GW, w.before args s = true) (hX : XC ad A s) : ∀ w ∈ L, w.before args s = true := by
  intro w hw
  have h := List.all_eq_true.mp hL w hw
  simp only [Bool.or_eq_true, Bool.and_eq_true, decide_eq_true_eq] at h
  rcases h with ⟨h1, h2⟩ | h
  · exact hG w (gw_t h2 h1)
  · simp only [th_sp, List.mem_cons, List.not_mem_nil, or_false] at h
    rcases h with rfl | rfl | rfl | rfl | rfl | rfl | rfl | rfl
    · exact va_Nw.use rfl (xc_TD0 hX)
    · exact va_Nw.use rfl (xc_TD1 hX)
    · exact va_Nw.use rfl (xc_TD2 hX)
    · rcases hk with rfl | rfl
      · exact va_Nw.use rfl (xc_TC0 hX)
      · exact va_Nw.use rfl (xc_TC1 hX)
    · exact isRef_of_Zq (xc_TZ0 hX)
    · exact isRef_of_Zq (xc_TZ1 hX)
    · exact va_LS.word (xc_TL0 hX)
    · exact va_LS.word (xc_TL1 hX)
section Thr
variable {p : Program} {l : Launch} {e : Env} {R : Room} {s : State} {m : MethodId} {args : Array Value} {below : List Frame} {meth : Method} {c : Code}
/-- new E(); throw: from a walk that has written nothing -/
theorem W.throw0 {cc : ByteArray} {nL : Nat} {own : String} {k ci ic pc : Nat} {ls : Array Slot} {Qc : Array Value → State → Outcome → State → Prop} {free : Addr → Prop} (htr : e.platform.stackTraces = false) (hlocks : meth.locks = false) (fx : CallFix p m c cc nL s args GW own)
    (hk : k = 1 ∨ k = 2) (hcl : Cond.classLink own ci (xcn k) ∈ GW) (hins : Cond.instantiable (xcn k) 6 ∈ GW) (hini : Cond.initialized (xcn k) ∈ GW)
    (hat : ∀ w ∈ Bundle.ownAtoms0 own ic (xcn k) ["java/lang/RuntimeException", "java/lang/Exception"], w.before args s = true) (hno : c.exceptionTable.isEmpty = true) (hsz : ls.size = nL)
    (d1 : decode cc pc = .ok (.new ci, 3)) (d2 : decode cc (pc + 3) = .ok (.dup, 1)) (d3 : decode cc (pc + 4) = .ok (.invokespecial ic, 3)) (d4 : decode cc (pc + 7) = .ok (.athrow, 1)) (hfr : 6 ≤ R.frames) (hlo : 81 ≤ R.locals) (hce : 1 ≤ R.cells) (hsl : 6 ≤ R.slots)
    (hq : ∀ (x : Nat) (t : State), (∀ q : Nat, q < s.heap.size → t.heap[q]? = s.heap[q]?) → s.heap.size ≤ t.heap.size → s.WarmedH t.vm → ExAt k x t t.heap → s.heap.size ≤ x → Qc args s (.threw x) t) : W p l e R s m args below meth c s.heap [] 0 0 (MQX below Qc args s 1 6 free) (F0 m pc ls []) := by
  refine W.newc fx.1 fx.2.1 (C := xcn k) (index := ci) (n := 6) fx.2.2.2.1 (fx.2.2.2.2 _ hcl) (fx.2.2.2.2 _ hins) (fx.2.2.2.2 _ hini) rfl d1 (by omega) (by omega) fun cC kC h1 h2 h3 h4 => ?_
  refine W.eq (g2 := F0 m (pc + 3) ls [.ref s.heap.size]) rfl ?_
  refine lv_dup fx.1 fx.2.1 d2 rfl ?_
  intro T hT X
  have hcell : T.heap[s.heap.size]? = some (freshCell cC kC) := by rw [hT]; simp [freshCell]
  obtain ⟨U, hsteps, hrun, hend, hW, hsame, ce, hce', K⟩ := X.ctorThrow0 fx.1 htr (own := own) (cls := xcn k) (names := ["java/lang/RuntimeException", "java/lang/Exception"]) (ic := ic) fx.2.2.2.1 (by rcases hk with rfl | rfl <;> decide +kernel) (by decide +kernel) hat (fun x hx => by cases hx) h1 h2 hcell (Nat.le_refl _)
    (g := F0 m (pc + 4) ls [.ref s.heap.size, .ref s.heap.size]) rfl (hsz.trans fx.2.2.1.symm) rfl rfl (rest := []) rfl (by rw [fx.2.1]; exact d3) (by rw [fx.2.1]; exact d4) (covers_of_empty hno _) (by show 2 + 3 < R.frames; omega) (by show 2 * 0 + (1 + 0) + (13 * (2 + 1) + 41) ≤ R.locals; omega) hlocks
  refine ⟨U, hsteps, .threw s.heap.size, hrun, hend, hq _ U (same_nil hsame) hsame.2.1 hW ⟨ce, hce', by rw [K.vm]; rfl, by rw [hW.alike.findClass]; exact K.cls⟩ (Nat.le_refl _), [], ⟨hW, hsame⟩, fun q hq => by cases hq⟩
end Thr
