/-! calls of methods that may throw -/
section RT
variable {p : Program} {l : Launch} {e : Env} {R : Room} {s : State} {m : MethodId} {args : Array Value} {below : List Frame} {meth : Method} {c : Code} {H : Heap} {locs : List Loc} {cells slots : Nat} {Q : State → Prop}
def RunT (p : Program) (l : Launch) (e : Env) (R : Room) (s : State) (m : MethodId) (args : Array Value) (below : List Frame) (meth : Method) (c : Code) (H : Heap) (locs : List Loc) (cells slots mc ms : Nat) (g : JFrame) (rest : List Value) (Qa : State → Outcome → State → Prop) (free : Addr → Prop) : Prop :=
  ∀ T : State, T.heap = H → Stand p l e R s m args below meth c T locs cells slots → ∃ (st₀ t T' : State) (L : List Loc), st₀.heap = H ∧ Stand p l e R s m args below meth c T' (locs ++ L) (cells + mc) (slots + ms) ∧ (∀ q ∈ L, free q.base) ∧ T'.heap = t.heap ∧ T'.vm = t.vm ∧
    ((∃ v, Qa st₀ (.returned v) t ∧ ∀ tg, Steps p.tables e below (T'.setTop { g with pc := g.pc + 3, stack := v.toList ++ rest }) tg → Steps p.tables e below (T.setTop g) tg) ∨
     (∃ x, Qa st₀ (.threw x) t ∧ ∀ tg, Steps p.tables e below ((T'.setTop { g with stack := rest }).pushFrame (.throwing x)) tg → Steps p.tables e below (T.setTop g) tg))
variable {cc : ByteArray} {nL : Nat} {own C : String} {D : va_G} {cl : List vw_C} {tys : List (ClassId × FieldType)} {w : va_W} {wf : SS → va_W} {σ : SS} {X : (Nat → Prop) → State → Prop} {A : Nat → Prop} {pc : Nat} {ls : Array Slot} {rest st0 : List Value} {y : MethodName} {bc : ByteArray} {mL : Nat} {rt : Option FieldType} {fr mc ms lc n idx : Nat} {b : Nat} {As : List Value} {Qc : Array Value → State → Outcome → State → Prop} {free : Addr → Prop} {Pc : Array Value → State → Prop}
theorem rnTS (fx : CallFix p m c cc nL s args GW own) (hM : MetX l y (.code y bc mL rt :: GW) { frames := fr, cells := mc, slots := ms, locals := lc } Pc Qc mc ms free) (hbl : FrameBlind Pc) (hpre : ∀ U : State, U.heap = H → s.WarmedH U.vm → Pc As.toArray U) (cw : CXW own idx y bc mL rt n) (hn : As.length = n) (hR : fr + 1 ≤ R.frames ∧ 8 + (mL + 11) + lc ≤ R.locals) (hsz : ls.size = nL) (hst : (rest.map fun v => v.category).sum ≤ 8) (hdg : decode cc pc = .ok (.invokestatic idx, 3)) (hf : cells + mc ≤ R.cells ∧ slots + ms ≤ R.slots) :
    RunT p l e R s m args below meth c H locs cells slots mc ms (F0 m pc ls (As.reverse ++ rest)) rest (Qc As.toArray) free := by
  obtain ⟨⟨h1, h2, h3, h4, hws, hcm, hcode, hini, hy, hlen, hlink⟩, hstat⟩ := va_cwS (rm := { frames := fr, cells := mc, slots := ms, locals := lc }) (mc := mc) (ms := ms) (R := R) n fx.2.2.2.2 cw.1 rfl rfl rfl cw.2 hR
  have hK : BackX l R p e below s args y 3 8 mc ms Pc Qc free := backX hM hbl rfl rfl h3 h4 hws hcm (fun a' U hW => word_at hW (Or.inl (by first | rfl | simp [Cond.onTables, Cond.keeps, Cond.steady])) hini)
  intro T hT XX
  obtain ⟨mk, hnamed⟩ := Cond.code_named hcode
  obtain ⟨methM, cM, hmethM, -, -, -, -, -, -, hsigM⟩ := Cond.code_spec hnamed hcode
  have hstatic : methM.isStatic = true := Cond.static_spec hnamed hmethM hstat
  obtain ⟨kP, hkP, -⟩ := className_of_methodNamed hnamed
  have hinitP : kP.init = .initialized := Cond.initialized_spec (findClass_of_methodNamed hnamed) hkP hini
  obtain ⟨vm₁, X₁, hstep₁⟩ := XX.invokestatic fx.1 fx.2.2.2.1 hlink hnamed hmethM hstatic hkP hinitP hy (g := F0 m pc ls (As.reverse ++ rest)) rfl (argsL := As) (rest := rest) (hn.trans (hlen _ hsigM)) rfl (by rw [fx.2.1]; exact hdg)
  obtain ⟨L, U', t, X', hL, e1, e2, hor⟩ := hK m meth c (T.setVm vm₁) locs cells slots (F0 m pc ls rest) (.invokestatic idx) mk As.toArray X₁ rfl (hsz.trans fx.2.2.1.symm) (by rw [fx.2.1]; exact hdg) (lv_room (m := m) (pc := pc) (ls := ls) (rest := rest) hst) (X₁.named hnamed) (hpre _ hT X₁.warmed) hf.1 hf.2
  refine ⟨(T.setVm vm₁).calling (F0 m pc ls rest) mk As.toArray, t, U', L, hT, X', hL, e1, e2, ?_⟩
  rcases hor with ⟨v, hq, st⟩ | ⟨x, hq, st⟩
  · exact Or.inl ⟨v, hq, fun tg h => hstep₁ _ fun acts => by rw [doInvoke_state]; exact st.trans h⟩
  · exact Or.inr ⟨x, hq, fun tg h => hstep₁ _ fun acts => by rw [doInvoke_state]; exact st.trans h⟩
theorem rnTV (fx : CallFix p m c cc nL s args GW own) (hM : MetX l y (.code y bc mL rt :: GW) { frames := fr, cells := mc, slots := ms, locals := lc } Pc Qc mc ms free) (hbl : FrameBlind Pc) (hpre : ∀ U : State, U.heap = H → s.WarmedH U.vm → Pc (Value.ref b :: As).toArray U) (cw : CVW own idx C y bc mL rt n) (hb : ∃ cell : Cell, H[b]? = some cell ∧ cell.vm.isStatics = false ∧ s.vm.findClass C = some cell.cls) (hn : As.length = n) (hR : fr + 1 ≤ R.frames ∧ 8 + (mL + 11) + lc ≤ R.locals) (hsz : ls.size = nL) (hst : (rest.map fun v => v.category).sum ≤ 8) (hdg : decode cc pc = .ok (.invokevirtual idx, 3)) (hf : cells + mc ≤ R.cells ∧ slots + ms ≤ R.slots) :
    RunT p l e R s m args below meth c H locs cells slots mc ms (F0 m pc ls (As.reverse ++ .ref b :: rest)) rest (Qc (Value.ref b :: As).toArray) free := by
  obtain ⟨⟨h1, h2, h3, h4, hws, hcm, hcode, hini, hy, hlen, hlink⟩, hinst, hsel⟩ := cwV (rm := { frames := fr, cells := mc, slots := ms, locals := lc }) (mc := mc) (ms := ms) (R := R) n fx.2.2.2.2 cw.1 rfl rfl rfl cw.2 hR
  have hK : BackX l R p e below s args y 3 8 mc ms Pc Qc free := backX hM hbl rfl rfl h3 h4 hws hcm (fun a' U hW => word_at hW (Or.inl (by first | rfl | simp [Cond.onTables, Cond.keeps, Cond.steady])) hini)
  obtain ⟨cellB, hcB, hoB, hclB⟩ := hb
  intro T hT XX
  obtain ⟨mk, methM, hnamed, hmethM, hstM, habM⟩ := Cond.instanceMethod_spec hinst
  obtain ⟨methM', cM, hmethM', -, -, -, -, -, -, hsigM⟩ := Cond.code_spec hnamed hcode
  cases hmethM.symm.trans hmethM'
  obtain ⟨c2, r2, m2, q1, q2, q3, q4, kP, hkP, hkPi⟩ := Cond.selects_spec hsel
  cases hclB.symm.trans q1
  cases (State.methodFound?_of_named hnamed hy).symm.trans q2
  cases hnamed.symm.trans q3
  have hselP : selectMethod e.platform s.vm cellB.cls mk = .method mk := by rw [Launch.admits_selectMethod XX.admits]; exact q4
  obtain ⟨vm₁, X₁, hstep₁⟩ := XX.invokevirtual fx.1 fx.2.2.2.1 hlink hnamed hmethM hstM hkP hkPi hy (a := b) (cell := cellB) (by rw [hT]; exact hcB)
    (fun z h => by rw [h] at hoB; cases hoB) hselP hmethM habM hkP hkPi (g := F0 m pc ls (As.reverse ++ .ref b :: rest)) rfl (argsL := As) (rest := rest) (hn.trans (hlen _ hsigM)) rfl (by rw [fx.2.1]; exact hdg)
  obtain ⟨L, U', t, X', hL, e1, e2, hor⟩ := hK m meth c (T.setVm vm₁) locs cells slots (F0 m pc ls rest) (.invokevirtual idx) mk (Value.ref b :: As).toArray X₁ rfl (hsz.trans fx.2.2.1.symm) (by rw [fx.2.1]; exact hdg) (lv_room (m := m) (pc := pc) (ls := ls) (rest := rest) hst) (X₁.named hnamed) (hpre _ hT X₁.warmed) hf.1 hf.2
  refine ⟨(T.setVm vm₁).calling (F0 m pc ls rest) mk (Value.ref b :: As).toArray, t, U', L, hT, X', hL, e1, e2, ?_⟩
  rcases hor with ⟨v, hq, st⟩ | ⟨x, hq, st⟩
  · exact Or.inl ⟨v, hq, fun tg h => hstep₁ _ (by first | (intro acts; rw [doInvoke_state]; exact st.trans h) | (rw [doInvoke_state]; exact st.trans h))⟩
  · exact Or.inr ⟨x, hq, fun tg h => hstep₁ _ (by first | (intro acts; rw [doInvoke_state]; exact st.trans h) | (rw [doInvoke_state]; exact st.trans h))⟩
theorem rsT {rf : Int32 → Option Value} {post : Int32 → SS → Prop} {pt : Nat → SS → Prop} {av : Array Value} (hw : CX D cl tys (wf σ) X A s H locs) (hr : RunT p l e R s m args below meth c H locs cells slots mc ms (F0 m pc ls st0) rest (QT D cl tys wf (va_A (wf σ) H.size) rf post pt av) (va_A (wf σ) H.size))
    (k : ∀ (r : Int32) (σ1 : SS) (H1 : Heap) (locs1 : List Loc), CX D cl tys (wf σ1) X A s H1 locs1 → post r σ1 → W p l e R s m args below meth c H1 locs1 (cells + mc) (slots + ms) Q (F0 m (pc + 3) ls ((rf r).toList ++ rest)))
    (kx : ∀ (x kd : Nat) (σ1 : SS) (H1 : Heap) (locs1 : List Loc), CX D cl tys (wf σ1) X A s H1 locs1 → pt kd σ1 → ExAt kd x s H1 → s.heap.size ≤ x → WX p l e R s m args below meth c H1 locs1 (cells + mc) (slots + ms) Q (F0 m pc ls rest) x) : W p l e R s m args below meth c H locs cells slots Q (F0 m pc ls st0) := by
  have hf9 := cx_free hw
  have hS := hw.2.2.2.1
  intro T hT XX
  obtain ⟨st₀, t, T', L, h0, X', hL, e1, e2, hor⟩ := hr T hT XX
  have hS' : va_F (va_A (wf σ) H.size) st₀ t → va_S A s.heap T'.heap (locs ++ L) := by
    intro ⟨hz, hk⟩
    rw [h0] at hz hk
    exact ⟨Nat.le_trans hS.1 (by rw [e1]; exact hz), fun q h1 h2 => by rw [e1, hk q (Nat.lt_of_lt_of_le h1 hS.1) (fun z => h2 (hf9 q z))]; exact hS.2.1 q h1 h2, fun q hq => by
      rcases List.mem_append.mp hq with h | h
      · exact hS.2.2 q h
      · exact hf9 _ (hL q h)⟩
  have hal : s.vm.Alike t.vm := by rw [← e2]; exact X'.warmed.alike
  rcases hor with ⟨v, hq, st⟩ | ⟨x, hq, st⟩
  · obtain ⟨hq, hF⟩ := hq
    rcases hq with ⟨r, u, hv, hp, hB⟩ | ⟨x, kd, u, hv, -⟩
    · cases hv
      obtain ⟨t2, a1, b1⟩ := k r u T'.heap (locs ++ L) (cx_back hw e1.symm hB (hS' hF)) hp T' rfl X'
      exact ⟨t2, st t2 a1, b1⟩
    · cases hv
  · obtain ⟨hq, hF⟩ := hq
    rcases hq with ⟨r, u, hv, -⟩ | ⟨x', kd, u, hv, hp, hB, hE, hz⟩
    · cases hv
    · cases hv
      obtain ⟨cell, g1, g2, g3⟩ := hE
      obtain ⟨t2, a1, b1⟩ := kx x kd u T'.heap (locs ++ L) (cx_back hw e1.symm hB (hS' hF)) hp ⟨cell, by rw [e1]; exact g1, g2, by rw [← hal.findClass]; exact g3⟩ (by rw [h0] at hz; exact Nat.le_trans hS.1 hz) T' rfl X'
      exact ⟨t2, st t2 a1, b1⟩
end RT
section Rets2
variable (p : Program) (l : Launch) (e : Env) (R : Room) (s : State) (m : MethodId) (args : Array Value) (below : List Frame) (meth : Method) (c : Code) (Q : State → Prop)
variable (D : va_G) (cl : List vw_C) (tys : List (ClassId × FieldType)) (wf : SS → va_W) (X : (Nat → Prop) → State → Prop) (A : Nat → Prop)
/-- what is had at the end of a method that may throw -/
def RetTI (bc : ByteArray) (mc ms : Nat) (post : Int32 → SS → Prop) : Prop := ∀ {r : Int32} {σ : SS} {H : Heap} {locs : List Loc} {pc : Nat} {ls : Array Slot} {cells slots : Nat}, cells ≤ mc → slots ≤ ms → decode bc pc = .ok (.ireturn, 1) → post r σ → CX D cl tys (wf σ) X A s H locs → W p l e R s m args below meth c H locs cells slots Q (F0 m pc ls [.int r])
def RetTV (bc : ByteArray) (mc ms : Nat) (post : Int32 → SS → Prop) : Prop := ∀ {σ : SS} {H : Heap} {locs : List Loc} {pc : Nat} {ls : Array Slot} {cells slots : Nat}, cells ≤ mc → slots ≤ ms → decode bc pc = .ok (.return_, 1) → post 0 σ → CX D cl tys (wf σ) X A s H locs → W p l e R s m args below meth c H locs cells slots Q (F0 m pc ls [])
def RetX (mc ms : Nat) (pt : Nat → SS → Prop) : Prop := ∀ {x kd : Nat} {σ : SS} {H : Heap} {locs : List Loc} {pc : Nat} {ls : Array Slot} {st : List Value} {cells slots : Nat}, cells ≤ mc → slots ≤ ms → CX D cl tys (wf σ) X A s H locs → pt kd σ → ExAt kd x s H → s.heap.size ≤ x → WX p l e R s m args below meth c H locs cells slots Q (F0 m pc ls st) x
end Rets2
theorem WX.widen {p : Program} {l : Launch} {e : Env} {R : Room} {s : State} {m : MethodId} {args : Array Value} {below : List Frame} {meth : Method} {c : Code} {H : Heap} {locs : List Loc} {cells slots : Nat} {Q : State → Prop} {g : JFrame} {x k n : Nat} (h1 : cells ≤ k) (h2 : slots ≤ n) (kk : WX p l e R s m args below meth c H locs k n Q g x) : WX p l e R s m args below meth c H locs cells slots Q g x := fun T hT XX => kk T hT (stand_widen XX h1 h2)
section MetsT
variable {l : Launch} {y : MethodName} {bc : ByteArray} {mL : Nat} {fr mc ms lc : Nat} {D : va_G} {cl : List vw_C} {tys : List (ClassId × FieldType)} {wf : SS → va_W} {X : (Nat → Prop) → State → Prop} {σ : SS} {av : List Value} {post : Int32 → SS → Prop} {pt : Nat → SS → Prop}
theorem met_TI (hy : plainName y.cls = true) (ha : (lg_sl av).length ≤ mL)
    (body : ∀ (p : Program) (e : Env) (s : State) (m : MethodId) (args : Array Value) (below : List Frame) (meth : Method) (c : Code) (A : Nat → Prop) (Q : State → Prop), CallFix p m c bc mL s args GW y.cls → RetTI p l e { frames := fr, cells := mc, slots := ms, locals := lc } s m args below meth c Q D cl tys wf X A bc mc ms post → RetX p l e { frames := fr, cells := mc, slots := ms, locals := lc } s m args below meth c Q D cl tys wf X A mc ms pt → ∀ (H : Heap) (ls : Array Slot), CX D cl tys (wf σ) X A s H [] → lv_has ls mL (lv_args 0 av) → W p l e { frames := fr, cells := mc, slots := ms, locals := lc } s m args below meth c H [] 0 0 Q (F0 m 0 ls [])) :
    mT (fun r => some (.int r)) l y bc mL (some .int) fr mc ms lc D cl tys wf X σ av post pt := by
  intro sz
  refine MetX.ofW (cc := bc) (maxL := mL) (ret := some .int) hy rfl ?_
  intro p e s m args below meth c s₁ B hml hv
  obtain ⟨rfl, hv⟩ := hv
  have hlocks := B.notSynchronized
  have hG := atoms_spec (ws := .code y bc mL (some .int) :: GW) B.pre
  have hno := B.noHandlers (hG _ List.mem_cons_self)
  have hl := lv_entry av (n := mL) ha
  rw [lg_entry_eq]
  refine body p e s m _ below meth c _ _ ⟨B.exec, B.bytes, hml, findClass_of_methodNamed B.named, gw_hts hG⟩ ?_ ?_ s.heap _ (cx_start hv) hl
  · intro r σ1 H locs pc ls cells slots h1 h2 hd hp hw
    refine W.widen h1 h2 (W.mono (fun t => MQ.toX) ?_)
    exact W.iret B.exec B.bytes B.returns (fun t ht hW => ⟨Or.inl ⟨r, σ1, rfl, hp, cx_end hw ht hW.alike⟩, hw.2.2.2.1.F ht⟩) hw.2.2.2.1.2.2 hd
  · intro x kd σ1 H locs pc ls st cells slots h1 h2 hw hp hE hz
    refine WX.widen h1 h2 (WX.out hlocks (covers_of_empty hno _) (fun t ht hW => ⟨Or.inr ⟨x, kd, σ1, rfl, hp, cx_end hw ht hW.alike, ?_, hz⟩, hw.2.2.2.1.F ht⟩) hw.2.2.2.1.2.2)
    obtain ⟨cell, g1, g2, g3⟩ := hE
    exact ⟨cell, by rw [ht]; exact g1, g2, by rw [hW.alike.findClass]; exact g3⟩
theorem met_TV (hy : plainName y.cls = true) (ha : (lg_sl av).length ≤ mL)
    (body : ∀ (p : Program) (e : Env) (s : State) (m : MethodId) (args : Array Value) (below : List Frame) (meth : Method) (c : Code) (A : Nat → Prop) (Q : State → Prop), CallFix p m c bc mL s args GW y.cls → RetTV p l e { frames := fr, cells := mc, slots := ms, locals := lc } s m args below meth c Q D cl tys wf X A bc mc ms post → RetX p l e { frames := fr, cells := mc, slots := ms, locals := lc } s m args below meth c Q D cl tys wf X A mc ms pt → ∀ (H : Heap) (ls : Array Slot), CX D cl tys (wf σ) X A s H [] → lv_has ls mL (lv_args 0 av) → W p l e { frames := fr, cells := mc, slots := ms, locals := lc } s m args below meth c H [] 0 0 Q (F0 m 0 ls [])) :
    mT (fun _ => none) l y bc mL none fr mc ms lc D cl tys wf X σ av post pt := by
  intro sz
  refine MetX.ofW (cc := bc) (maxL := mL) (ret := none) hy rfl ?_
  intro p e s m args below meth c s₁ B hml hv
  obtain ⟨rfl, hv⟩ := hv
  have hlocks := B.notSynchronized
  have hG := atoms_spec (ws := .code y bc mL none :: GW) B.pre
  have hno := B.noHandlers (hG _ List.mem_cons_self)
  have hl := lv_entry av (n := mL) ha
  rw [lg_entry_eq]
  refine body p e s m _ below meth c _ _ ⟨B.exec, B.bytes, hml, findClass_of_methodNamed B.named, gw_hts hG⟩ ?_ ?_ s.heap _ (cx_start hv) hl
  · intro σ1 H locs pc ls cells slots h1 h2 hd hp hw
    refine W.widen h1 h2 (W.mono (fun t => MQ.toX) ?_)
    exact W.vret B.exec B.bytes B.returns (fun t ht hW => ⟨Or.inl ⟨0, σ1, rfl, hp, cx_end hw ht hW.alike⟩, hw.2.2.2.1.F ht⟩) hw.2.2.2.1.2.2 hd
  · intro x kd σ1 H locs pc ls st cells slots h1 h2 hw hp hE hz
    refine WX.widen h1 h2 (WX.out hlocks (covers_of_empty hno _) (fun t ht hW => ⟨Or.inr ⟨x, kd, σ1, rfl, hp, cx_end hw ht hW.alike, ?_, hz⟩, hw.2.2.2.1.F ht⟩) hw.2.2.2.1.2.2)
    obtain ⟨cell, g1, g2, g3⟩ := hE
    exact ⟨cell, by rw [ht]; exact g1, g2, by rw [hW.alike.findClass]; exact g3⟩
end MetsT
