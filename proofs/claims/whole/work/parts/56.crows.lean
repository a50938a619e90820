/-! rows of constructors: worlds that grow at their end -/
theorem cxt_pre {D : va_G} {cl : List vw_C} {tys : List (ClassId × FieldType)} {u w0 : va_W} {X : (Nat → Prop) → State → Prop} {A : Nat → Prop} {s : State} {H : Heap} {locs : List Loc} (hw : CX D cl tys (u ++ w0) X A s H locs) : CX D cl tys w0 X A s H locs := by
  obtain ⟨hK, hP, hD, hS, hA, hx⟩ := hw
  refine ⟨hK, fun k q hk => hP (u.length + k) q ?_, ⟨fun i j p q hi hj e => ?_, fun k q hk => hD.2 (u.length + k) q ?_⟩, hS, hA, hx⟩
  · rw [List.getElem?_append_right (by omega)]; simpa using hk
  · have := hD.1 (u.length + i) (u.length + j) p q (by rw [List.getElem?_append_right (by omega)]; simpa using hi) (by rw [List.getElem?_append_right (by omega)]; simpa using hj) e
    omega
  · rw [List.getElem?_append_right (by omega)]; simpa using hk
theorem cxt_back {D : va_G} {cl : List vw_C} {tys : List (ClassId × FieldType)} {u w0 w1 : va_W} {X : (Nat → Prop) → State → Prop} {A : Nat → Prop} {s t : State} {H H1 : Heap} {locs locs1 : List Loc} (hw : CX D cl tys (u ++ w0) X A s H locs) (ht : t.heap = H1) (hP1 : va_P D cl w1 t.heap) (hD1 : va_D (va_A w0 H.size) w1) (hk : ∀ q : Nat, q < H.size → ¬ va_A w0 H.size q → H1[q]? = H[q]?) (hS : va_S A s.heap H1 locs1) : CX D cl tys (u ++ w1) X A s H1 locs1 := by
  have hf := cx_free (cxt_pre hw)
  obtain ⟨hK, hP, hD, -, hA, hx⟩ := hw
  subst ht
  have hin : ∀ (k : Nat) (q : Nat × va_E), u[k]? = some q → (u ++ w0)[k]? = some q := fun k q h => by
    rw [List.getElem?_append_left (List.getElem?_eq_some_iff.mp h).1]; exact h
  have apart : ∀ (k : Nat) (q : Nat × va_E), u[k]? = some q → q.1 < H.size ∧ ¬ va_A w0 H.size q.1 := by
    intro k q hq
    have hl := (hP k q (hin k q hq)).lt
    refine ⟨hl, fun h => ?_⟩
    rcases h with ⟨k2, e, h⟩ | h
    · have h2 : (u ++ w0)[u.length + k2]? = some (q.1, e) := by rw [List.getElem?_append_right (by omega)]; simpa using h
      have := hD.1 k (u.length + k2) q (q.1, e) (hin k q hq) h2 rfl
      have := (List.getElem?_eq_some_iff.mp hq).1
      omega
    · omega
  refine ⟨hK, va_P.app (fun k q hq => (hP k q (hin k q hq)).kept (hk q.1 (apart k q hq).1 (apart k q hq).2)) hP1, va_D.app ⟨fun i j p q hi hj e => hD.1 i j p q (hin i p hi) (hin j q hj) e, fun k q hq => hD.2 k q (hin k q hq)⟩ (hD1.weaken (fun _ q _ h => hf q.1 h)) (fun i j x y hx hy hxy => (apart i x hx).2 (by rw [hxy]; exact hD1.2 j y hy)), hS, hA, hx⟩
/-- a constructor: its cell (and no other) at its start; at its end its cell and those that it made -/
def mC (l : Launch) (y : MethodName) (bc : ByteArray) (mL fr mc ms lc : Nat) (D : va_G) (cl : List vw_C) (tys : List (ClassId × FieldType)) (X : (Nat → Prop) → State → Prop) (w0 : va_W) (av : List Value) (w1 : (Nat → Nat) → va_W) : Prop :=
  ∀ sz, Met l y (.code y bc mL none :: GW) { frames := fr, cells := mc, slots := ms, locals := lc } (va_Pc av (PreW D cl tys w0 X sz)) (va_Qv (fun _ : Nat → Nat => True) (fun q t => va_P D cl (w1 q) t.heap ∧ va_K D cl tys t ∧ va_D (va_A w0 sz) (w1 q)) (va_A w0 sz)) mc ms (va_A w0 sz)
def RetC (p : Program) (l : Launch) (e : Env) (R : Room) (s : State) (m : MethodId) (args : Array Value) (below : List Frame) (meth : Method) (c : Code) (Q : State → Prop) (D : va_G) (cl : List vw_C) (tys : List (ClassId × FieldType)) (X : (Nat → Prop) → State → Prop) (A : Nat → Prop) (bc : ByteArray) (mc ms : Nat) (w1 : (Nat → Nat) → va_W) : Prop := ∀ (q : Nat → Nat) {H : Heap} {locs : List Loc} {pc : Nat} {ls : Array Slot}, decode bc pc = .ok (.return_, 1) → CX D cl tys (w1 q) X A s H locs → W p l e R s m args below meth c H locs mc ms Q (F0 m pc ls [])
theorem met_C {l : Launch} {y : MethodName} {bc : ByteArray} {mL fr mc ms lc : Nat} {D : va_G} {cl : List vw_C} {tys : List (ClassId × FieldType)} {X : (Nat → Prop) → State → Prop} {w0 : va_W} {av : List Value} {w1 : (Nat → Nat) → va_W} (hy : plainName y.cls = true) (hyn : y.name = "<init>") (ha : (lg_sl av).length ≤ mL)
    (body : ∀ (p : Program) (e : Env) (s : State) (m : MethodId) (args : Array Value) (below : List Frame) (meth : Method) (c : Code) (A : Nat → Prop) (Q : State → Prop), CallFix p m c bc mL s args GW y.cls → meth.name = "<init>" → RetC p l e { frames := fr, cells := mc, slots := ms, locals := lc } s m args below meth c Q D cl tys X A bc mc ms w1 → ∀ (H : Heap) (ls : Array Slot), CX D cl tys w0 X A s H [] → lv_has ls mL (lv_args 0 av) → W p l e { frames := fr, cells := mc, slots := ms, locals := lc } s m args below meth c H [] 0 0 Q (F0 m 0 ls [])) :
    mC l y bc mL fr mc ms lc D cl tys X w0 av w1 := by
  intro sz
  refine Met.ofW (cc := bc) (maxL := mL) (ret := none) hy rfl ?_
  intro p e s m args below meth c s₁ B hml hv
  obtain ⟨rfl, hv⟩ := hv
  have hlocks := B.notSynchronized
  have hl := lv_entry av (n := mL) ha
  rw [lg_entry_eq]
  refine body p e s m _ below meth c _ _ ⟨B.exec, B.bytes, hml, findClass_of_methodNamed B.named, gw_hts (atoms_spec (ws := .code y bc mL none :: GW) B.pre)⟩ (by rw [(name_of_methodNamed B.named B.method).1]; exact hyn) ?_ s.heap _ (cx_start hv) hl
  intro q H locs pc ls hd hw
  exact W.vret B.exec B.bytes B.returns (fun t ht hW => ⟨⟨q, rfl, trivial, by rw [ht]; exact hw.2.1, va_K.moved hW.alike hw.1, hw.2.2.1⟩, hw.2.2.2.1.F ht⟩) hw.2.2.2.1.2.2 hd
section CR
variable {p : Program} {l : Launch} {e : Env} {R : Room} {s : State} {m : MethodId} {args : Array Value} {below : List Frame} {meth : Method} {c : Code} {H : Heap} {locs : List Loc} {cells slots : Nat} {Q : State → Prop}
variable {cc : ByteArray} {nL : Nat} {own C : String} {D : va_G} {cl : List vw_C} {tys : List (ClassId × FieldType)} {w u w0 : va_W} {w1 : (Nat → Nat) → va_W} {X : (Nat → Prop) → State → Prop} {A : Nat → Prop} {pc : Nat} {ls : Array Slot} {rest : List Value} {y : MethodName} {bc : ByteArray} {mL : Nat} {fr mc ms lc n idx : Nat} {b : Nat} {As : List Value}
theorem cx_obj (fx : CallFix p m c cc nL s args GW own) {idx : Nat} (h1 : Cond.methodLink own idx Lib.objectInit ∈ GW) (h2 : Cond.instanceMethod Lib.objectInit ∈ GW) (h3 : Cond.code Lib.objectInit ⟨#[0xb1]⟩ 1 none ∈ GW) {a : Nat} (hsz : ls.size = nL) (hd : decode cc pc = .ok (.invokespecial idx, 3)) (hfr : 1 ≤ R.frames) (hlo : 8 + 12 ≤ R.locals) (hst : (rest.map fun v => v.category).sum ≤ 8)
    (kk : W p l e R s m args below meth c H locs cells slots Q (F0 m (pc + 3) ls rest)) : W p l e R s m args below meth c H locs cells slots Q (F0 m pc ls (.ref a :: rest)) :=
  W.objInit fx.1 fx.2.1 fx.2.2.2.1 (fx.2.2.2.2 _ h1) (fx.2.2.2.2 _ h2) (fx.2.2.2.2 _ h3) rfl (hsz.trans fx.2.2.1.symm) rfl hd hfr (by have := lv_room (m := m) (pc := pc) (ls := ls) (rest := .ref a :: rest) hst; omega) kk
theorem cx_newo {T : u_T} {N ci index : Nat} {ty : Nat → FieldType} {fs : List Value} (hin : ∀ w ∈ u_ws C T N, w ∈ GW) (hty : ∀ k, k < N → parseFieldDescriptor (T k).2.2.1 = some (ty k)) (fx : CallFix p m c cc nL s args GW own) (hw : CX D cl tys w X A s H locs) (h1 : Cond.classLink own index C ∈ GW) (h2 : Cond.instantiable C N ∈ GW) (h3 : Cond.initialized C ∈ GW) (hc : cl[ci]? = some (C, T, N)) (hfs : ∀ j, j < N → defaultValue (ty j) = vp_V fs j) (hcells : cells + 1 ≤ R.cells) (hslots : slots + N ≤ R.slots) (hdg : decode cc pc = .ok (.new index, 3))
    (kk : ∀ (q : Nat) (H1 : Heap), CX D cl tys (w ++ [(q, .inr (ci, fs))]) X A s H1 locs → W p l e R s m args below meth c H1 locs (cells + 1) (slots + N) Q (F0 m (pc + 3) ls (.ref q :: rest))) : W p l e R s m args below meth c H locs cells slots Q (F0 m pc ls rest) :=
  va_new (D := D) (C := C) (T := T) (N := N) fx.1 fx.2.1 fx.2.2.2.2 hin ty hty fx.2.2.2.1 (fx.2.2.2.2 _ h1) (fx.2.2.2.2 _ h2) (fx.2.2.2.2 _ h3) hw.1 hw.2.1 hw.2.2.1 hw.2.2.2.1 hw.2.2.2.2.1 hc hfs hcells hslots hdg (fun q H1 hP hD hS => kk q H1 ⟨hw.1, hP, hD, hS, hw.2.2.2.2⟩)
theorem cx_newa {atype : ArrayType} {ty : FieldType} {n : Int32} {N' : Nat} {a0 : vp_A} {cA0 : ClassId} (t0 : Nat) (ht : tys[t0]? = some (cA0, ty)) (hty : newarray.typeOf atype = ty) (hpr : ∀ c9, ty ≠ .object c9) (ha : ∀ cA : ClassId, vp_cell cA a0 = arrV cA N' (fun _ => defaultValue ty)) (hn : ¬ n < 0) (hN : n.toNatClampNeg = N') (hbytes : N' * componentBytes ty ≤ 536870912) (fx : CallFix p m c cc nL s args GW own) (hw : CX D cl tys w X A s H locs) (harr : Cond.arrayClass ty ∈ GW) (hcells : cells + 1 ≤ R.cells) (hslots : slots + N' ≤ R.slots) (hdg : decode cc pc = .ok (.newarray atype, 2))
    (kk : ∀ (q : Nat) (H1 : Heap), CX D cl tys (w ++ [(q, .inl (cA0, a0))]) X A s H1 locs → W p l e R s m args below meth c H1 locs (cells + 1) (slots + N') Q (F0 m (pc + 2) ls (.ref q :: rest))) : W p l e R s m args below meth c H locs cells slots Q (F0 m pc ls (.int n :: rest)) := by
  refine va_newa (D := D) fx.1 fx.2.1 (atype := atype) (by rw [hty]; exact fx.2.2.2.2 _ harr) hty hw.1 hw.2.1 hw.2.2.1 hw.2.2.2.1 hw.2.2.2.2.1 ha hn hN hbytes hcells hslots hdg (fun q cA H1 hK hP hD hS => ?_)
  have h1 := (hw.1.2 t0 _ ht).2
  have h2 := (hK.2 tys.length (cA, ty) (by simp)).2
  have e9 : cA = cA0 := by
    cases ty with
    | object c9 => exact absurd rfl (hpr c9)
    | _ => exact Option.some.inj (h2.symm.trans h1)
  subst e9
  exact kk q H1 ⟨hw.1, hP, hD, hS, hw.2.2.2.2⟩
theorem cx_fin {ref : String} {T : u_T} {ty0 : Nat → FieldType} {N ci index a : Nat} {wz : va_W} {fs : List Value} (q0 k : Nat) {ty : FieldType} {v : Value} (hin : ∀ w ∈ u_ws C T N, w ∈ GW) (hty : ∀ k, k < N → parseFieldDescriptor (T k).2.2.1 = some (ty0 k)) (hnm : ∀ a, a < N → ∀ b, b < N → a ≠ b → (T a).2.1 ≠ (T b).2.1) (he : w[q0]? = some (a, .inr (ci, fs))) (hc : cl[ci]? = some (C, T, N)) (hk : k < N) (hl : k < fs.length) (hfin : (T k).2.2.2 = true) (hdecl : (T k).1 = own) (hd : parseFieldDescriptor (T k).2.2.1 = some ty) (hw1 : w.set q0 (a, .inr (ci, fs.set k v)) = wz) (hsame : ∀ x, s.fieldFound? (T k).1 (T k).2.1 (T k).2.2.1 = some x → s.fieldFound? ref (T k).2.1 (T k).2.2.1 = some x) (hn : narrow ty v = v) (hfit : fits ty v = true) (fx : CallFix p m c cc nL s args GW own) (hi : meth.name = "<init>") (hw : CX D cl tys w X A s H locs) (hlink : Cond.fieldLink own index ref (T k).2.1 (T k).2.2.1 ∈ GW) (hdg : decode cc pc = .ok (.putfield index, 3))
    (kk : ∀ (H1 : Heap) (locs1 : List Loc), CX D cl tys wz X A s H1 locs1 → W p l e R s m args below meth c H1 locs1 cells slots Q (F0 m (pc + 3) ls rest)) : W p l e R s m args below meth c H locs cells slots Q (F0 m pc ls (v :: .ref a :: rest)) :=
  va_putF (D := D) fx.1 fx.2.1 fx.2.2.2.2 hin ty0 hty hnm fx.2.2.2.1 hw.1 hw.2.1 hw.2.2.1 hw.2.2.2.1 q0 he hc k hk (fx.2.2.2.2 _ hlink) hsame hfin hi hdecl hd hn hfit hl hdg (fun H1 locs1 hP hD hS => kk H1 locs1 ⟨hw.1, hw1 ▸ hP, hw1 ▸ hD, hS, hw.2.2.2.2.1, hw.2.2.2.2.2⟩)
theorem cx_res (hw : CX D cl tys (u ++ w0) X A s H locs) {av : Array Value} {st0 : List Value} (hr : va_Run p l e R s m args below meth c H locs cells slots mc ms (F0 m pc ls st0) rest (va_Qv (fun _ : Nat → Nat => True) (fun q t => va_P D cl (w1 q) t.heap ∧ va_K D cl tys t ∧ va_D (va_A w0 H.size) (w1 q)) (va_A w0 H.size) av) (va_A w0 H.size))
    (k : ∀ (q : Nat → Nat) (H1 : Heap) (locs1 : List Loc), CX D cl tys (u ++ w1 q) X A s H1 locs1 → W p l e R s m args below meth c H1 locs1 (cells + mc) (slots + ms) Q (F0 m (pc + 3) ls rest)) : W p l e R s m args below meth c H locs cells slots Q (F0 m pc ls st0) := by
  have hf9 := cx_free (cxt_pre hw)
  exact va_callv hr hw.2.2.2.1 (fun q _ h => hf9 q h) hf9 (fun q t H1 locs1 ht hvm _ hB hz1 hk1 hS => k q H1 locs1 (cxt_back hw ht hB.1 hB.2.2 hk1 hS))
theorem rnC (hX : XT X) (fx : CallFix p m c cc nL s args GW own) (hw : CX D cl tys (u ++ w0) X A s H locs) {Qc : Array Value → State → Outcome → State → Prop} {free : Addr → Prop} (hM : Met l y (.code y bc mL none :: GW) { frames := fr, cells := mc, slots := ms, locals := lc } (va_Pc (.ref b :: As) (PreW D cl tys w0 X H.size)) Qc mc ms free) (h1 : Cond.methodLink own idx y ∈ GW) (h2 : Cond.instanceMethod y ∈ GW) (h3 : Cond.initialized y.cls ∈ GW) (h4 : Cond.code y bc mL none ∈ GW) (hyn : y.name = "<init>") (h5 : y.cls ≠ "java/lang/invoke/MethodHandle" ∧ y.cls ≠ "java/lang/invoke/VarHandle" ∧ (parseMethodDescriptor y.desc).map (fun d => d.parameters.length) = some n) (hn : As.length = n) (hR : fr + 1 ≤ R.frames ∧ 8 + (mL + 11) + lc ≤ R.locals) (hsz : ls.size = nL) (hst : (rest.map fun v => v.category).sum ≤ 8) (hdg : decode cc pc = .ok (.invokespecial idx, 3)) (hf : cells + mc ≤ R.cells ∧ slots + ms ≤ R.slots) :
    va_Run p l e R s m args below meth c H locs cells slots mc ms (F0 m pc ls (As.reverse ++ .ref b :: rest)) rest (Qc (Value.ref b :: As).toArray) free :=
  va_runI (As := As) (rest := rest) fx hM (cwI n fx.2.2.2.2 (gw_cons h4) rfl rfl rfl (fx.2.2.2.2 _ h3) (fx.2.2.2.2 _ h1) (fx.2.2.2.2 _ h2) hyn h5 hR) ⟨pw_blind hX, fun U hU hW => ⟨rfl, cx_pre hX (cxt_pre hw) hU hW⟩⟩ rfl hn hsz rfl (lv_room hst) hdg hf
theorem rnCN {host : String} (hX : XT X) (fx : CallFix p m c cc nL s args GW own) (hw : CX D cl tys (u ++ w0) X A s H locs) {Qc : Array Value → State → Outcome → State → Prop} {free : Addr → Prop} (hM : Met l y (.code y bc mL none :: GW) { frames := fr, cells := mc, slots := ms, locals := lc } (va_Pc (.ref b :: As) (PreW D cl tys w0 X H.size)) Qc mc ms free) (h1 : va_Nw (.methodLinkNest own idx y host) s) (h2 : Cond.instanceMethod y ∈ GW) (h3 : Cond.initialized y.cls ∈ GW) (h4 : Cond.code y bc mL none ∈ GW) (hyn : y.name = "<init>") (h5 : y.cls ≠ "java/lang/invoke/MethodHandle" ∧ y.cls ≠ "java/lang/invoke/VarHandle" ∧ (parseMethodDescriptor y.desc).map (fun d => d.parameters.length) = some n) (hn : As.length = n) (hR : fr + 1 ≤ R.frames ∧ 8 + (mL + 11) + lc ≤ R.locals) (hsz : ls.size = nL) (hst : (rest.map fun v => v.category).sum ≤ 8) (hdg : decode cc pc = .ok (.invokespecial idx, 3)) (hf : cells + mc ≤ R.cells ∧ slots + ms ≤ R.slots) :
    va_Run p l e R s m args below meth c H locs cells slots mc ms (F0 m pc ls (As.reverse ++ .ref b :: rest)) rest (Qc (Value.ref b :: As).toArray) free :=
  va_runIN (As := As) (rest := rest) fx hM ⟨va_cnB n fx.2.2.2.2 (gw_cons h4) rfl rfl rfl h1 (fx.2.2.2.2 _ h3) h5 hR, hyn, fx.2.2.2.2 _ h2⟩ ⟨pw_blind hX, fun U hU hW => ⟨rfl, cx_pre hX (cxt_pre hw) hU hW⟩⟩ rfl hn hsz rfl (lv_room hst) hdg hf
end CR
