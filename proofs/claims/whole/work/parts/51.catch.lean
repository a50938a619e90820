/-! an exception that a handler of the walked method takes, its class entry cold or warm -/
/-- the search over the rows 'es' of a table ends at the handler pc; the tables may be warmer then -/
def HFind (e : Env) (s0 S : State) (f : JFrame) (a : Addr) (es : List ExceptionTableEntry) (pc : Nat) : Prop :=
  ∃ vm' : Vm, s0.WarmedH vm' ∧ ∀ (Q : Handler → Pre) (E : CtlPost) (d : Bool) (acts : List Action), wp (findHandler.go f a es) Q E e d acts S ↔ Q (.found pc) d acts (S.setVm vm')
section HF
variable {e : Env} {s0 S : State} {f : JFrame} {a : Addr} {x : ExceptionTableEntry} {es : List ExceptionTableEntry} {cell : Cell} {cT : ClassId}
theorem hf_wp (hW : s0.WarmedH S.vm) (hx : covers x f.pc = true) (h0 : x.catchType ≠ 0) (hl : s0.vm.ClassLinks e.platform f.method.cls x.catchType cT) (hcell : S.heap[a]? = some cell) (hobj : cell.vm.isStatics = false) (hk : ∃ k, s0.vm.classes[cell.cls]? = some k)
    (Q : Handler → Pre) (E : CtlPost) (d : Bool) (acts : List Action) : wp (findHandler.go f a (x :: es)) Q E e d acts S ↔ (if s0.vm.assignable cell.cls cT = true then Q (.found x.handlerPc) d acts (S.setVm (S.vm.noted f.method.cls x.catchType (.cls cT))) else wp (findHandler.go f a es) Q E e d acts (S.setVm (S.vm.noted f.method.cls x.catchType (.cls cT)))) := by
  have hx' : (decide (x.startPc ≤ f.pc) && decide (f.pc < x.endPc)) = true := hx
  have hlS := hW.classLinks hl
  obtain ⟨dk, _, _, kt, hd, _, _, _, _, hkt, _, hopen⟩ := hl.here
  obtain ⟨k1, hk1⟩ := hk
  have hal0 := hW.alike
  obtain ⟨k1s, hk1s, -⟩ := hal0.2.2 _ _ hk1
  obtain ⟨kts, hkts, -⟩ := hal0.2.2 _ _ hkt
  have hal : S.vm.Alike (S.vm.noted f.method.cls x.catchType (.cls cT)) := (Vm.Alike.refl S.vm).noted _ _ _
  obtain ⟨k1', hk1', -⟩ := hal.2.2 _ _ hk1s
  obtain ⟨k2', hk2', -⟩ := hal.2.2 _ _ hkts
  obtain ⟨ha, ht⟩ := (resolveClass_links e.toSetting hlS).op (op := VmOp.resolveClass f.method.cls x.catchType) rfl
  have hst := VmData.ne_statics_of hobj
  have has : (S.vm.noted f.method.cls x.catchType (.cls cT)).assignable cell.cls cT = s0.vm.assignable cell.cls cT := by rw [hal.assignable, hal0.assignable]
  by_cases hf : s0.vm.assignable cell.cls cT = true
  · rw [if_pos hf]
    rw [hf] at has
    simp [findHandler.go, hx', h0, ha, ht, hcell, hst, hk1', hk2', has, VmOp.dirties, VmOp.acts]
  · rw [if_neg hf]
    have hf' : s0.vm.assignable cell.cls cT = false := by simpa using hf
    rw [hf'] at has
    simp [findHandler.go, hx', h0, ha, ht, hcell, hst, hk1', hk2', has, VmOp.dirties, VmOp.acts]
theorem hf_warm (hW : s0.WarmedH S.vm) (hl : s0.vm.ClassLinks e.platform f.method.cls x.catchType cT) : s0.WarmedH (S.vm.noted f.method.cls x.catchType (.cls cT)) := by
  obtain ⟨dk, _, _, kt, hd, _, _, _, _, hkt, _, hopen⟩ := hl.here
  exact hW.noted hd hopen (State.rightAt_cls hl)
theorem hf_here (hW : s0.WarmedH S.vm) (hx : covers x f.pc = true) (h0 : x.catchType ≠ 0) (hl : s0.vm.ClassLinks e.platform f.method.cls x.catchType cT) (hcell : S.heap[a]? = some cell) (hobj : cell.vm.isStatics = false) (hk : ∃ k, s0.vm.classes[cell.cls]? = some k) (hfit : s0.vm.assignable cell.cls cT = true) : HFind e s0 S f a (x :: es) x.handlerPc :=
  ⟨_, hf_warm hW hl, fun Q E d acts => by rw [hf_wp hW hx h0 hl hcell hobj hk, if_pos hfit]⟩
theorem hf_next {pc : Nat} (hW : s0.WarmedH S.vm) (hx : covers x f.pc = true) (h0 : x.catchType ≠ 0) (hl : s0.vm.ClassLinks e.platform f.method.cls x.catchType cT) (hcell : S.heap[a]? = some cell) (hobj : cell.vm.isStatics = false) (hk : ∃ k, s0.vm.classes[cell.cls]? = some k) (hno : s0.vm.assignable cell.cls cT = false)
    (hr : HFind e s0 (S.setVm (S.vm.noted f.method.cls x.catchType (.cls cT))) f a es pc) : HFind e s0 S f a (x :: es) pc := by
  obtain ⟨vm', h1, h2⟩ := hr
  exact ⟨vm', h1, fun Q E d acts => by rw [hf_wp hW hx h0 hl hcell hobj hk, if_neg (by rw [hno]; decide)]; exact h2 Q E d acts⟩
theorem hf_step {r : List Frame} {pc : Nat} {vm' : Vm} {meth : Method} {code : Code} (hm : S.vm.method? f.method = some meth) (hc : meth.code = some code) (hf : ∀ (Q : Handler → Pre) (E : CtlPost) (d : Bool) (acts : List Action), wp (findHandler.go f a code.exceptionTable.toList) Q E e d acts S ↔ Q (.found pc) d acts (S.setVm vm')) :
    (stepThrowing e S a (.java f :: r)).Is ((S.setVm vm').setFrames (.java { f with pc := pc, stack := [.ref a] } :: r)) [] := by
  have hg : ∀ (Q : Handler → Pre) (E : CtlPost) (d : Bool) (acts : List Action), wp (findHandler f a) Q E e d acts S ↔ Q (.found pc) d acts (S.setVm vm') := fun Q E d acts => by
    rw [W.findHandler_eq hm hc]
    exact hf Q E d acts
  simp only [stepThrowing, searchFrame, vmDo]
  generalize hr : Sem.go _ e false [] S = res
  obtain ⟨as, rfl, ha⟩ := Sem.eq_ok_of hr (a := Handler.found pc) (s' := S.setVm vm') (acts' := []) (by simp [hg _ _ _ _])
  exact ⟨rfl, ha⟩
end HF
section WXI
variable {p : Program} {l : Launch} {e : Env} {R : Room} {s : State} {m : MethodId} {args : Array Value} {below : List Frame} {meth : Method} {c : Code} {H : Heap} {locs : List Loc} {cells slots : Nat} {Q : State → Prop}
theorem WX.to {pc hpc : Nat} {ls : Array Slot} {st : List Value} {x : Addr} (hfind : ∀ S : State, S.heap = H → s.WarmedH S.vm → HFind e s S (F0 m pc ls st) x c.exceptionTable.toList hpc)
    (k : W p l e R s m args below meth c H locs cells slots Q (F0 m hpc ls [.ref x])) : WX p l e R s m args below meth c H locs cells slots Q (F0 m pc ls st) x := by
  intro T hT X
  obtain ⟨vm', hW', hf⟩ := hfind ((T.setTop (F0 m pc ls st)).pushFrame (.throwing x)) (by rw [Stand.throwing_heap]; exact hT) (by rw [Stand.throwing_vm]; exact X.warmed)
  obtain ⟨t, a1, b1⟩ := k (T.setVm vm') hT (X.noted hW')
  refine ⟨t, ?_, b1⟩
  have h : At T (F0 m pc ls st).method c below := X.here
  obtain ⟨hgo, hw⟩ := h.throwing x
  refine Steps.head hgo hw ?_
  have hm : ((T.setTop (F0 m pc ls st)).pushFrame (.throwing x)).vm.method? (F0 m pc ls st).method = some meth := by rw [Stand.throwing_vm]; exact X.method'
  rw [stepThread_throwing (frames_entered h.top _), (hf_step (S := (T.setTop (F0 m pc ls st)).pushFrame (.throwing x)) hm X.code hf).1]
  obtain ⟨g₀, hg⟩ := Option.isSome_iff_exists.mp h.top
  obtain ⟨r, hr⟩ := State.topJava?_eq_some.mp hg
  have hr' : (T.setVm vm').frames = .java g₀ :: r := hr
  rw [State.setTop_of_frames _ hr'] at a1
  have key : ∀ (u : State) (F G : List Frame), ((u.setFrames F).setVm vm').setFrames G = (u.setVm vm').setFrames G := fun u F G => by
    have h1 : (u.setFrames F).setVm vm' = (u.setVm vm').setFrames F := rfl
    rw [h1, State.setFrames_setFrames]
  rw [hr, List.tail_cons, State.pushFrame, key, State.setTop_of_frames _ hr, key]
  exact a1
end WXI
