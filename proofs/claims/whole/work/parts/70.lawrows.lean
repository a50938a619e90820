/-! rows of the law: a world turned, calls whose world is the end of the caller's, methods with handlers -/
section LW1
variable {D : va_G} {cl : List vw_C} {tys : List (ClassId × FieldType)} {u v w : va_W} {X Y : (Nat → Prop) → State → Prop} {A : Nat → Prop} {s : State} {H : Heap} {locs : List Loc}
theorem cx_rot (hw : CX D cl tys (u ++ v) X A s H locs) : CX D cl tys (v ++ u) X A s H locs := by
  obtain ⟨hK, hP, hD, hS, hA, hx⟩ := hw
  have key : ∀ (k : Nat) (q : Nat × va_E), (v ++ u)[k]? = some q → (u ++ v)[if k < v.length then u.length + k else k - v.length]? = some q := by
    intro k q h
    by_cases hk : k < v.length
    · rw [if_pos hk, List.getElem?_append_right (by omega)]
      rw [List.getElem?_append_left hk] at h
      simpa using h
    · rw [if_neg hk]
      rw [List.getElem?_append_right (by omega)] at h
      have := (List.getElem?_eq_some_iff.mp h).1
      rw [List.getElem?_append_left (by omega)]
      exact h
  refine ⟨hK, fun k q h => hP _ q (key k q h), ⟨fun i j p q hi hj e => ?_, fun k q h => hD.2 _ q (key k q h)⟩, hS, hA, hx⟩
  have h := hD.1 _ _ p q (key i p hi) (key j q hj) e
  have h1 := (List.getElem?_eq_some_iff.mp hi).1
  have h2 := (List.getElem?_eq_some_iff.mp hj).1
  rw [List.length_append] at h1 h2
  split at h <;> split at h <;> omega
theorem cx_w (h : ∀ A s, X A s → Y A s) (hw : CX D cl tys w X A s H locs) : CX D cl tys w Y A s H locs := ⟨hw.1, hw.2.1, hw.2.2.1, hw.2.2.2.1, hw.2.2.2.2.1, h _ _ hw.2.2.2.2.2⟩
theorem cx_e (e : v = w) (hw : CX D cl tys v X A s H locs) : CX D cl tys w X A s H locs := e ▸ hw
end LW1
/-- a method with handlers: an int; its world at the end by any parameter -/
def mH {β : Type} (l : Launch) (y : MethodName) (bc : ByteArray) (mL : Nat) (hh : List (Nat × Nat × Nat × Nat)) (fr mc ms lc : Nat) (D : va_G) (cl : List vw_C) (tys : List (ClassId × FieldType)) (X : (Nat → Prop) → State → Prop) (w0 : va_W) (wf : β → va_W) (av : List Value) (post : Int32 → β → Prop) : Prop :=
  ∀ sz, Met l y (.codeWith y bc mL (some .int) hh :: GW) { frames := fr, cells := mc, slots := ms, locals := lc } (va_Pc av (PreW D cl tys w0 X sz)) (va_Qi post (fun b t => va_P D cl (wf b) t.heap ∧ va_K D cl tys t ∧ va_D (va_A w0 sz) (wf b)) (va_A w0 sz)) mc ms (va_A w0 sz)
def RetH {β : Type} (p : Program) (l : Launch) (e : Env) (R : Room) (s : State) (m : MethodId) (args : Array Value) (below : List Frame) (meth : Method) (c : Code) (Q : State → Prop) (D : va_G) (cl : List vw_C) (tys : List (ClassId × FieldType)) (X : (Nat → Prop) → State → Prop) (A : Nat → Prop) (bc : ByteArray) (mc ms : Nat) (wf : β → va_W) (post : Int32 → β → Prop) : Prop :=
  ∀ {r : Int32} {b : β} {H : Heap} {locs : List Loc} {pc : Nat} {ls : Array Slot} {cells slots : Nat}, cells ≤ mc → slots ≤ ms → decode bc pc = .ok (.ireturn, 1) → post r b → CX D cl tys (wf b) X A s H locs → W p l e R s m args below meth c H locs cells slots Q (F0 m pc ls [.int r])
theorem met_H {β : Type} {l : Launch} {y : MethodName} {bc : ByteArray} {mL : Nat} {hh : List (Nat × Nat × Nat × Nat)} {fr mc ms lc : Nat} {D : va_G} {cl : List vw_C} {tys : List (ClassId × FieldType)} {X : (Nat → Prop) → State → Prop} {w0 : va_W} {wf : β → va_W} {av : List Value} {post : Int32 → β → Prop} (hy : plainName y.cls = true) (ha : (lg_sl av).length ≤ mL)
    (body : ∀ (p : Program) (e : Env) (s : State) (m : MethodId) (args : Array Value) (below : List Frame) (meth : Method) (c : Code) (A : Nat → Prop) (Q : State → Prop), CallFix p m c bc mL s args GW y.cls → e.platform.magicAccessors = ({} : Platform).magicAccessors → c.exceptionTable.toList.map (fun h => (h.startPc, h.endPc, h.handlerPc, h.catchType)) = hh → RetH p l e { frames := fr, cells := mc, slots := ms, locals := lc } s m args below meth c Q D cl tys X A bc mc ms wf post → ∀ (H : Heap) (ls : Array Slot), CX D cl tys w0 X A s H [] → lv_has ls mL (lv_args 0 av) → W p l e { frames := fr, cells := mc, slots := ms, locals := lc } s m args below meth c H [] 0 0 Q (F0 m 0 ls [])) :
    mH l y bc mL hh fr mc ms lc D cl tys X w0 wf av post := by
  intro sz
  refine va_MetW (cc := bc) (maxL := mL) (ret := some .int) (hh := hh) hy rfl ?_
  intro p e s m args below meth c s₁ B hml hv
  obtain ⟨rfl, hv⟩ := hv
  have hG := atoms_spec (ws := .codeWith y bc mL (some .int) hh :: GW) B.pre
  have hl := lv_entry av (n := mL) ha
  have hpl : e.platform.magicAccessors = ({} : Platform).magicAccessors := by rw [B.admits.platform]
  have hh9 : c.exceptionTable.toList.map (fun h => (h.startPc, h.endPc, h.handlerPc, h.catchType)) = hh := by
    obtain ⟨m', meth', c', hn', hm', hc', -, -, he', -, -, -⟩ := Cond.codeWith_spec (hG _ List.mem_cons_self)
    cases B.named.symm.trans hn'
    cases B.method.symm.trans hm'
    cases (Stand.of_body B).code.symm.trans hc'
    exact he'
  rw [lg_entry_eq]
  refine body p e s m _ below meth c _ _ ⟨B.exec, B.bytes, hml, findClass_of_methodNamed B.named, fun w hw => hG w (List.mem_cons_of_mem _ hw)⟩ hpl hh9 ?_ s.heap _ (cx_start hv) hl
  intro r b H locs pc ls cells slots h1 h2 hd hp hw
  refine W.widen h1 h2 ?_
  exact W.iret B.exec B.bytes B.returns (fun t ht hW => ⟨⟨r, b, rfl, hp, by rw [ht]; exact hw.2.1, va_K.moved hW.alike hw.1, hw.2.2.1⟩, hw.2.2.2.1.F ht⟩) hw.2.2.2.1.2.2 hd
section LW2
variable {p : Program} {l : Launch} {e : Env} {R : Room} {s : State} {m : MethodId} {args : Array Value} {below : List Frame} {meth : Method} {c : Code} {H : Heap} {locs : List Loc} {cells slots : Nat} {Q : State → Prop}
variable {cc : ByteArray} {nL : Nat} {own C : String} {D : va_G} {cl : List vw_C} {tys : List (ClassId × FieldType)} {u w0 : va_W} {wf : SS → va_W} {σ : SS} {X : (Nat → Prop) → State → Prop} {A : Nat → Prop} {pc : Nat} {ls : Array Slot} {rest st0 : List Value} {y : MethodName} {bc : ByteArray} {mL : Nat} {rt : Option FieldType} {fr mc ms lc n idx : Nat} {b : Nat} {As : List Value} {Qc : Array Value → State → Outcome → State → Prop} {free : Addr → Prop} {Pc : Array Value → State → Prop} {hh : List (Nat × Nat × Nat × Nat)}
theorem rnW (fx : CallFix p m c cc nL s args GW own) (hM : Met l y (.codeWith y bc mL rt hh :: GW) { frames := fr, cells := mc, slots := ms, locals := lc } Pc Qc mc ms free) (hbl : FrameBlind Pc) (hpre : ∀ U : State, U.heap = H → s.WarmedH U.vm → Pc As.toArray U) (h1 : Cond.methodLink own idx y ∈ GW) (h2 : Cond.static y ∈ GW) (h3 : Cond.initialized y.cls ∈ GW) (h4 : Cond.codeWith y bc mL rt hh ∈ GW) (h6 : y.cls ≠ "java/lang/invoke/MethodHandle" ∧ y.cls ≠ "java/lang/invoke/VarHandle" ∧ (parseMethodDescriptor y.desc).map (fun d => d.parameters.length) = some n) (hn : As.length = n) (hR : fr + 1 ≤ R.frames ∧ 8 + (mL + 11) + lc ≤ R.locals) (hsz : ls.size = nL) (hst : (rest.map fun v => v.category).sum ≤ 8) (hdg : decode cc pc = .ok (.invokestatic idx, 3)) (hf : cells + mc ≤ R.cells ∧ slots + ms ≤ R.slots) :
    va_Run p l e R s m args below meth c H locs cells slots mc ms (F0 m pc ls (As.reverse ++ rest)) rest (Qc As.toArray) free := by
  have ht := fx.2.2.2.2
  have hws : ∀ w ∈ (Cond.codeWith y bc mL rt hh :: GW), ∀ (a' : Array Value) (U : State), s.WarmedH U.vm → w.before a' U = true := pay_in ht (fun w hw => by
    rcases List.mem_cons.mp hw with rfl | hw
    · exact gw_g h4
    · exact gw_g hw)
  have hini := ht _ h3
  have hK : Back l R p e below s args y 3 8 (PreOf R mc ms Pc) (PostOf Qc mc ms free) := va_backW (hh := hh) (bytes := bc) (maxL := mL) (ret := rt) hM hbl rfl rfl hR.1 hR.2 hws List.mem_cons_self (fun a' U hW => word_at hW (Or.inl (by first | rfl | simp [Cond.onTables, Cond.keeps, Cond.steady])) hini)
  intro T hT XX
  obtain ⟨mk, methM, cM, hnamed, hmethM, -, -, -, -, -, -, hsigM⟩ := Cond.codeWith_spec (ht _ h4)
  have hstatic : methM.isStatic = true := Cond.static_spec hnamed hmethM (ht _ h2)
  obtain ⟨kP, hkP, -⟩ := className_of_methodNamed hnamed
  have hinitP : kP.init = .initialized := Cond.initialized_spec (findClass_of_methodNamed hnamed) hkP hini
  have hlen : methM.sig.parameters.length = n := by
    have := h6.2.2
    rw [hsigM] at this
    simpa using this
  obtain ⟨vm₁, X₁, hstep₁⟩ := XX.invokestatic fx.1 fx.2.2.2.1 (ht _ h1) hnamed hmethM hstatic hkP hinitP ⟨h6.1, h6.2.1⟩ (g := F0 m pc ls (As.reverse ++ rest)) rfl (argsL := As) (rest := rest) (hn.trans hlen.symm) rfl (by rw [fx.2.1]; exact hdg)
  obtain ⟨v, ⟨U', l2, c2, s2⟩, X', ⟨g', mk', t, L, e1, e2, hq, q1, hL, q2, q3⟩, hsteps⟩ := hK m meth c ⟨T.setVm vm₁, locs, cells, slots⟩ (F0 m pc ls rest) (.invokestatic idx) mk As.toArray X₁ rfl (hsz.trans fx.2.2.1.symm) (by rw [fx.2.1]; exact hdg) (lv_room (m := m) (pc := pc) (ls := ls) (rest := rest) hst) (X₁.named hnamed) ⟨hf.1, hf.2, hpre _ hT X₁.warmed⟩
  dsimp only [Pt.U, Pt.locs, Pt.cells, Pt.slots] at X' e1 e2 q1 q2 q3 hsteps
  subst q1; subst q2; subst q3
  exact ⟨v, (T.setVm vm₁).calling g' mk' As.toArray, t, U', L, hT, X', hL, e1, e2, hq, fun tg h => hstep₁ _ fun acts => by rw [doInvoke_state]; exact hsteps.trans h⟩
theorem rsTu {rf : Int32 → Option Value} {post : Int32 → SS → Prop} {pt : Nat → SS → Prop} {av : Array Value} (hw : CX D cl tys (u ++ wf σ) X A s H locs) (hr : RunT p l e R s m args below meth c H locs cells slots mc ms (F0 m pc ls st0) rest (QT D cl tys wf (va_A (wf σ) H.size) rf post pt av) (va_A (wf σ) H.size))
    (k : ∀ (r : Int32) (σ1 : SS) (H1 : Heap) (locs1 : List Loc), CX D cl tys (u ++ wf σ1) X A s H1 locs1 → post r σ1 → W p l e R s m args below meth c H1 locs1 (cells + mc) (slots + ms) Q (F0 m (pc + 3) ls ((rf r).toList ++ rest)))
    (kx : ∀ (x kd : Nat) (σ1 : SS) (H1 : Heap) (locs1 : List Loc), CX D cl tys (u ++ wf σ1) X A s H1 locs1 → pt kd σ1 → ExAt kd x s H1 → s.heap.size ≤ x → WX p l e R s m args below meth c H1 locs1 (cells + mc) (slots + ms) Q (F0 m pc ls rest) x) : W p l e R s m args below meth c H locs cells slots Q (F0 m pc ls st0) := by
  have hf9 := cx_free (cxt_pre hw)
  have hS := hw.2.2.2.1
  intro T hT XX
  obtain ⟨st₀, t, T', L, h0, X', hL, e1, e2, hor⟩ := hr T hT XX
  have hkk : va_F (va_A (wf σ) H.size) st₀ t → ∀ q : Nat, q < H.size → ¬ va_A (wf σ) H.size q → T'.heap[q]? = H[q]? := by
    intro ⟨hz, hk⟩ q h1 h2
    rw [h0] at hk
    rw [e1]
    exact hk q h1 h2
  have hS' : va_F (va_A (wf σ) H.size) st₀ t → va_S A s.heap T'.heap (locs ++ L) := by
    intro ⟨hz, hk⟩
    rw [h0] at hz hk
    exact ⟨Nat.le_trans hS.1 (by rw [e1]; exact hz), fun q h1 h2 => by rw [e1, hk q (Nat.lt_of_lt_of_le h1 hS.1) (fun z => h2 (hf9 q z))]; exact hS.2.1 q h1 h2, fun q hq => by
      rcases List.mem_append.mp hq with h | h
      · exact hS.2.2 q h
      · exact hf9 _ (hL q h)⟩
  have hal : s.vm.Alike t.vm := by rw [← e2]; exact X'.warmed.alike
  rcases hor with ⟨v, hq, st⟩ | ⟨x, hq, st⟩
  · obtain ⟨hq, hF⟩ := hq
    rcases hq with ⟨r, u1, hv, hp, hB⟩ | ⟨x, kd, u1, hv, -⟩
    · cases hv
      obtain ⟨t2, a1, b1⟩ := k r u1 T'.heap (locs ++ L) (cxt_back hw e1.symm hB.1 hB.2.2 (hkk hF) (hS' hF)) hp T' rfl X'
      exact ⟨t2, st t2 a1, b1⟩
    · cases hv
  · obtain ⟨hq, hF⟩ := hq
    rcases hq with ⟨r, u1, hv, -⟩ | ⟨x', kd, u1, hv, hp, hB, hE, hz⟩
    · cases hv
    · cases hv
      obtain ⟨cell, g1, g2, g3⟩ := hE
      obtain ⟨t2, a1, b1⟩ := kx x kd u1 T'.heap (locs ++ L) (cxt_back hw e1.symm hB.1 hB.2.2 (hkk hF) (hS' hF)) hp ⟨cell, by rw [e1]; exact g1, g2, by rw [← hal.findClass]; exact g3⟩ (by rw [h0] at hz; exact Nat.le_trans hS.1 hz) T' rfl X'
      exact ⟨t2, st t2 a1, b1⟩
theorem rsIu {β : Type} {wf : β → va_W} {post : Int32 → β → Prop} {B : β → State → Prop} {av : Array Value} (hw : CX D cl tys (u ++ w0) X A s H locs) (hr : va_Run p l e R s m args below meth c H locs cells slots mc ms (F0 m pc ls st0) rest (va_Qi post B (va_A w0 H.size) av) (va_A w0 H.size)) (hB : ∀ b t, B b t → va_P D cl (wf b) t.heap ∧ va_K D cl tys t ∧ va_D (va_A w0 H.size) (wf b))
    (k : ∀ (r : Int32) (b : β) (H1 : Heap) (locs1 : List Loc), CX D cl tys (u ++ wf b) X A s H1 locs1 → post r b → W p l e R s m args below meth c H1 locs1 (cells + mc) (slots + ms) Q (F0 m (pc + 3) ls (.int r :: rest))) : W p l e R s m args below meth c H locs cells slots Q (F0 m pc ls st0) := by
  have hf9 := cx_free (cxt_pre hw)
  exact va_calli hr hw.2.2.2.1 (fun q _ h => hf9 q h) hf9 (fun r b t H1 locs1 ht hvm hq hb hz1 hk1 hS => k r b H1 locs1 (cxt_back hw ht (hB _ _ hb).1 (hB _ _ hb).2.2 hk1 hS) hq)
theorem rsVu {β : Type} {wf : β → va_W} {post : β → Prop} {B : β → State → Prop} {av : Array Value} (hw : CX D cl tys (u ++ w0) X A s H locs) (hr : va_Run p l e R s m args below meth c H locs cells slots mc ms (F0 m pc ls st0) rest (va_Qv post B (va_A w0 H.size) av) (va_A w0 H.size)) (hB : ∀ b t, B b t → va_P D cl (wf b) t.heap ∧ va_K D cl tys t ∧ va_D (va_A w0 H.size) (wf b))
    (k : ∀ (b : β) (H1 : Heap) (locs1 : List Loc), CX D cl tys (u ++ wf b) X A s H1 locs1 → post b → W p l e R s m args below meth c H1 locs1 (cells + mc) (slots + ms) Q (F0 m (pc + 3) ls rest)) : W p l e R s m args below meth c H locs cells slots Q (F0 m pc ls st0) := by
  have hf9 := cx_free (cxt_pre hw)
  exact va_callv hr hw.2.2.2.1 (fun q _ h => hf9 q h) hf9 (fun b t H1 locs1 ht hvm hq hb hz1 hk1 hS => k b H1 locs1 (cxt_back hw ht (hB _ _ hb).1 (hB _ _ hb).2.2 hk1 hS) hq)
end LW2
/-- what the law rests on -/
def XN (s : State) : Prop := ∀ c t, s.vm.findClass (xcn 2) = some c → s.vm.findClass (xcn 1) = some t → s.vm.assignable c t = false
def XL (ad : Nat → Nat → Nat) (A : Nat → Prop) (s : State) : Prop := XC ad A s ∧ XK A s ∧ XN s
theorem xtL {ad : Nat → Nat → Nat} : XT (XL ad) := fun A A1 s U locs h hS hA hW => ⟨xtC A A1 s U locs h.1 hS hA hW, xtK A A1 s U locs h.2.1 hS hA hW, fun c t h1 h2 => by
  rw [hW.alike.findClass] at h1 h2
  rw [hW.alike.assignable]
  exact h.2.2 c t h1 h2⟩
theorem xl_c {ad : Nat → Nat → Nat} : ∀ A s, XL ad A s → XC ad A s := fun _ _ h => h.1
theorem xl_k {ad : Nat → Nat → Nat} : ∀ A s, XL ad A s → XK A s := fun _ _ h => h.2.1
section LW3
variable {p : Program} {l : Launch} {e : Env} {R : Room} {s : State} {m : MethodId} {args : Array Value} {below : List Frame} {meth : Method} {c : Code} {H : Heap} {locs : List Loc} {cells slots : Nat} {Q : State → Prop}
variable {cc : ByteArray} {nL : Nat} {own : String} {ad : Nat → Nat → Nat} {A : Nat → Prop} {pc hpc i1 i2 h2 : Nat} {ls : Array Slot} {st : List Value} {x : Nat} {a0 b0 : Nat}
theorem hf_own {k : Nat} (hk : k = 1 ∨ k = 2) (hX : XL ad A s) : ∀ c t, s.vm.findClass (xcn k) = some c → s.vm.findClass (xcn k) = some t → s.vm.assignable c t = true := by
  intro c t h1 h2
  have h : (Cond.castable (xcn k) (xcn k)).before #[] s = true := by
    rcases hk with rfl | rfl
    · exact va_Nw.use rfl (xc_TC0 hX.1)
    · exact va_Nw.use rfl (xc_TC1 hX.1)
  obtain ⟨c1, t1, q1, q2, q3⟩ := Cond.castable_spec h
  cases h1.symm.trans q1
  cases h2.symm.trans q2
  exact q3
/-- one handler, of the thrown class -/
theorem WX.one {k : Nat} (hk : k = 1 ∨ k = 2) (fx : CallFix p m c cc nL s args GW own) (hpl : e.platform.magicAccessors = ({} : Platform).magicAccessors) (hX : XL ad A s) (hE : ExAt k x s H) {es : List (Nat × Nat × Nat × Nat)} (hh : c.exceptionTable.toList.map (fun h => (h.startPc, h.endPc, h.handlerPc, h.catchType)) = (a0, b0, hpc, i1) :: es) (hcl : Cond.classLink own i1 (xcn k) ∈ GW) (h0 : i1 ≠ 0) (hcov : (decide (a0 ≤ pc) && decide (pc < b0)) = true)
    (kk : W p l e R s m args below meth c H locs cells slots Q (F0 m hpc ls [.ref x])) : WX p l e R s m args below meth c H locs cells slots Q (F0 m pc ls st) x := by
  obtain ⟨cT, hT, hl⟩ := Cond.classLink_spec fx.2.2.2.1 (fx.2.2.2.2 _ hcl) e.platform hpl
  obtain ⟨cell, g1, g2, g3⟩ := hE
  refine WX.to (fun S hS hW => ?_) kk
  cases ht : c.exceptionTable.toList with
  | nil => rw [ht] at hh; cases hh
  | cons z zs =>
    rw [ht] at hh
    simp only [List.map_cons, List.cons.injEq, Prod.mk.injEq] at hh
    obtain ⟨⟨e1, e2, e3, e4⟩, -⟩ := hh
    subst e1; subst e2; subst e3; subst e4
    obtain ⟨dk, _, _, kt, hd, _, _, _, _, hkt, _, hopen⟩ := hl.here
    cases hT.symm.trans g3
    exact hf_here (x := z) hW hcov h0 hl (by rw [hS]; exact g1) g2 ⟨kt, hkt⟩ (hf_own hk hX _ _ hT hT)
/-- two handlers, the second one's class -/
theorem WX.two (fx : CallFix p m c cc nL s args GW own) (hpl : e.platform.magicAccessors = ({} : Platform).magicAccessors) (hX : XL ad A s) (hE : ExAt 2 x s H) (hh : c.exceptionTable.toList.map (fun h => (h.startPc, h.endPc, h.handlerPc, h.catchType)) = [(a0, b0, h2, i2), (a0, b0, hpc, i1)]) (hcl2 : Cond.classLink own i2 (xcn 1) ∈ GW) (hcl : Cond.classLink own i1 (xcn 2) ∈ GW) (h0 : i1 ≠ 0) (h02 : i2 ≠ 0) (hcov : (decide (a0 ≤ pc) && decide (pc < b0)) = true)
    (kk : W p l e R s m args below meth c H locs cells slots Q (F0 m hpc ls [.ref x])) : WX p l e R s m args below meth c H locs cells slots Q (F0 m pc ls st) x := by
  obtain ⟨cT, hT, hl⟩ := Cond.classLink_spec fx.2.2.2.1 (fx.2.2.2.2 _ hcl) e.platform hpl
  obtain ⟨cU, hU, hl2⟩ := Cond.classLink_spec fx.2.2.2.1 (fx.2.2.2.2 _ hcl2) e.platform hpl
  obtain ⟨cell, g1, g2, g3⟩ := hE
  refine WX.to (fun S hS hW => ?_) kk
  cases ht : c.exceptionTable.toList with
  | nil => rw [ht] at hh; cases hh
  | cons z zs =>
    cases zs with
    | nil => rw [ht] at hh; simp at hh
    | cons z2 zs =>
      rw [ht] at hh
      simp only [List.map_cons, List.cons.injEq, Prod.mk.injEq] at hh
      obtain ⟨⟨e1, e2, e3, e4⟩, ⟨f1, f2, f3, f4⟩, -⟩ := hh
      obtain ⟨dk, _, _, kt, hd, _, _, _, _, hkt, _, hopen⟩ := hl.here
      cases hT.symm.trans g3
      have hcz : covers z (F0 m pc ls st).pc = true := by
        show (decide (z.startPc ≤ pc) && decide (pc < z.endPc)) = true
        rw [e1, e2]; exact hcov
      have hcz2 : covers z2 (F0 m pc ls st).pc = true := by
        show (decide (z2.startPc ≤ pc) && decide (pc < z2.endPc)) = true
        rw [f1, f2]; exact hcov
      have hno : s.vm.assignable cell.cls cU = false := hX.2.2 _ _ hT hU
      rw [← e4] at hl2 h02
      rw [← f4] at hl h0
      have hr : HFind e s (S.setVm (S.vm.noted (F0 m pc ls st).method.cls z.catchType (.cls cU))) (F0 m pc ls st) x (z2 :: zs) z2.handlerPc := hf_here (x := z2) (hf_warm hW hl2) hcz2 h0 hl (by show S.heap[x]? = _; rw [hS]; exact g1) g2 ⟨kt, hkt⟩ (hf_own (Or.inr rfl) hX _ _ hT hT)
      rw [f3] at hr
      exact hf_next (x := z) hW hcz h02 hl2 (by rw [hS]; exact g1) g2 ⟨kt, hkt⟩ hno hr
end LW3
