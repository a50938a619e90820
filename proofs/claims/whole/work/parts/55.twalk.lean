/-! require and requireRoom, and the methods that call them -/
def f_N_require (post : Int32 → SS → Prop) (pt : Nat → SS → Prop) (σ : SS) (x0 : Int32) : Prop := br (x0 = 0) (pt 1 σ) (post 0 σ)
set_option maxHeartbeats 4000000 in
theorem c_N_require {l : Launch} (hfl : l.flags = flags0) {D : va_G} {cA : Nat → ClassId} {a : Nat → Nat} {ad : Nat → Nat → Nat} {σ : SS} {post : Int32 → SS → Prop} {pt : Nat → SS → Prop} {x0 : Int32} (h : f_N_require post pt σ x0) : mT (fun _ => none) l y_N_require b_N_require 1 none 6 1 6 81 D vcl (tyl cA) (wC cA a) (XC ad) σ [.int x0] post pt := by
  intro sz
  refine MetX.ofW (cc := b_N_require) (maxL := 1) (ret := none) (by decide) rfl ?_
  intro p e s m args below meth c s₁ B hml hv
  obtain ⟨rfl, hv⟩ := hv
  have hlocks := B.notSynchronized
  have hG := atoms_spec (ws := .code y_N_require b_N_require 1 none :: GW) B.pre
  have fx : CallFix p m c b_N_require 1 s ([Value.int x0] : List Value).toArray GW RNN := ⟨B.exec, B.bytes, hml, findClass_of_methodNamed B.named, gw_hts hG⟩
  have hw := cx_start hv
  have hno := B.noHandlers (hG _ List.mem_cons_self)
  have htr : e.platform.stackTraces = false := Launch.traces_off hfl B.admits
  have hl := lv_entry [Value.int x0] (n := 1) (Nat.le_of_ble_eq_true rfl)
  rw [lg_entry_eq]
  generalize (lg_sl [Value.int x0] ++ List.replicate (1 - (lg_sl [Value.int x0]).length) Slot.unset).toArray = ls at hl ⊢
  have hl : lv_has ls 1 [(0, .int x0)] := hl
  refine lv_iload_n (pc := 0) fx.1 fx.2.1 d_N_require_0 rfl (lv_at hl 0 rfl) ?_
  refine lv_if_ne (pc := 1) (tgt := 12) fx.1 fx.2.1 d_N_require_1 (by decide) (fun c9 => ?_) (fun c9 => ?_)
  · refine W.widen (k := 1) (n := 6) (by omega) (by omega) ?_
    refine W.mono (fun t => MQ.toX) ?_
    exact W.vret fx.1 fx.2.1 B.returns (fun t ht hW => ⟨Or.inl ⟨0, σ, rfl, h.2 c9, cx_end hw ht hW.alike⟩, hw.2.2.2.1.F ht⟩) hw.2.2.2.1.2.2 d_N_require_12
  · refine W.throw0 (k := 1) (ci := 145) (ic := 147) (pc := 4) htr hlocks fx (by decide) kw_661 kw_662 kw_15 (th_atoms (by decide) th_in1 fx.2.2.2.2 hw.2.2.2.2.2) hno hl.1 d_N_require_4 d_N_require_7 d_N_require_8 d_N_require_11 (Nat.le_of_ble_eq_true rfl) (Nat.le_of_ble_eq_true rfl) (Nat.le_of_ble_eq_true rfl) (Nat.le_of_ble_eq_true rfl) (fun x t ht hz hW hE hxz => ?_)
    exact ⟨Or.inr ⟨x, 1, σ, rfl, h.1 c9, ⟨hw.2.1.kept (fun k q hk => ht q.1 (hw.2.1 k q hk).lt), va_K.moved hW.alike hw.1, hw.2.2.1⟩, hE, hxz⟩, ⟨hz, fun q hq _ => ht q hq⟩⟩
def f_N_requireRoom (post : Int32 → SS → Prop) (pt : Nat → SS → Prop) (σ : SS) (x0 : Int32) : Prop := br (x0 = 0) (pt 2 σ) (post 0 σ)
set_option maxHeartbeats 4000000 in
theorem c_N_requireRoom {l : Launch} (hfl : l.flags = flags0) {D : va_G} {cA : Nat → ClassId} {a : Nat → Nat} {ad : Nat → Nat → Nat} {σ : SS} {post : Int32 → SS → Prop} {pt : Nat → SS → Prop} {x0 : Int32} (h : f_N_requireRoom post pt σ x0) : mT (fun _ => none) l y_N_requireRoom b_N_requireRoom 1 none 6 1 6 81 D vcl (tyl cA) (wC cA a) (XC ad) σ [.int x0] post pt := by
  intro sz
  refine MetX.ofW (cc := b_N_requireRoom) (maxL := 1) (ret := none) (by decide) rfl ?_
  intro p e s m args below meth c s₁ B hml hv
  obtain ⟨rfl, hv⟩ := hv
  have hlocks := B.notSynchronized
  have hG := atoms_spec (ws := .code y_N_requireRoom b_N_requireRoom 1 none :: GW) B.pre
  have fx : CallFix p m c b_N_requireRoom 1 s ([Value.int x0] : List Value).toArray GW RNN := ⟨B.exec, B.bytes, hml, findClass_of_methodNamed B.named, gw_hts hG⟩
  have hw := cx_start hv
  have hno := B.noHandlers (hG _ List.mem_cons_self)
  have htr : e.platform.stackTraces = false := Launch.traces_off hfl B.admits
  have hl := lv_entry [Value.int x0] (n := 1) (Nat.le_of_ble_eq_true rfl)
  rw [lg_entry_eq]
  generalize (lg_sl [Value.int x0] ++ List.replicate (1 - (lg_sl [Value.int x0]).length) Slot.unset).toArray = ls at hl ⊢
  have hl : lv_has ls 1 [(0, .int x0)] := hl
  refine lv_iload_n (pc := 0) fx.1 fx.2.1 d_N_requireRoom_0 rfl (lv_at hl 0 rfl) ?_
  refine lv_if_ne (pc := 1) (tgt := 12) fx.1 fx.2.1 d_N_requireRoom_1 (by decide) (fun c9 => ?_) (fun c9 => ?_)
  · refine W.widen (k := 1) (n := 6) (by omega) (by omega) ?_
    refine W.mono (fun t => MQ.toX) ?_
    exact W.vret fx.1 fx.2.1 B.returns (fun t ht hW => ⟨Or.inl ⟨0, σ, rfl, h.2 c9, cx_end hw ht hW.alike⟩, hw.2.2.2.1.F ht⟩) hw.2.2.2.1.2.2 d_N_requireRoom_12
  · refine W.throw0 (k := 2) (ci := 148) (ic := 150) (pc := 4) htr hlocks fx (by decide) kw_786 kw_787 kw_16 (th_atoms (by decide) th_in2 fx.2.2.2.2 hw.2.2.2.2.2) hno hl.1 d_N_requireRoom_4 d_N_requireRoom_7 d_N_requireRoom_8 d_N_requireRoom_11 (Nat.le_of_ble_eq_true rfl) (Nat.le_of_ble_eq_true rfl) (Nat.le_of_ble_eq_true rfl) (Nat.le_of_ble_eq_true rfl) (fun x t ht hz hW hE hxz => ?_)
    exact ⟨Or.inr ⟨x, 2, σ, rfl, h.1 c9, ⟨hw.2.1.kept (fun k q hk => ht q.1 (hw.2.1 k q hk).lt), va_K.moved hW.alike hw.1, hw.2.2.1⟩, hE, hxz⟩, ⟨hz, fun q hq _ => ht q hq⟩⟩
abbrev r_N_put : Room := { frames := 7, cells := 1, slots := 6, locals := 101 }
def f_N_put_24 (post : (Int32 → SS → Prop) × (Nat → SS → Prop)) (σ : SS) (x1 : Int32) (x2 : Int32) (s0 : Int32) : Prop := f_N_require (fun _ σ_1 => f_M_load (fun r_3 σ_2 => f_M_store (fun σ_4 => post.1 r_3 σ_4) σ_2 x1 x2) σ_1 x1) post.2 σ s0
def f_N_put (post : (Int32 → SS → Prop) × (Nat → SS → Prop)) (σ : SS) (x1 : Int32) (x2 : Int32) : Prop := f_N_isWithin (fun r_7 σ_6 => br (r_7 = 0) (f_N_put_24 post σ_6 x1 x2 0) (f_N_isWithin (fun r_9 σ_8 => br (r_9 = 0) (f_N_put_24 post σ_8 x1 x2 0) (f_N_put_24 post σ_8 x1 x2 1)) σ_6 x2 65535)) σ x1 32767
section
variable {p : Program} {l : Launch} {e : Env} {s : State} {m : MethodId} {args : Array Value} {below : List Frame} {meth : Method} {c : Code} {Q : State → Prop} {D : va_G} {cA : Nat → ClassId} {a : Nat → Nat} {ad : Nat → Nat → Nat} {A : Nat → Prop}
set_option maxHeartbeats 4000000 in
set_option maxRecDepth 100000 in
theorem c_N_put_24 (hfl : l.flags = flags0) (fx : CallFix p m c b_N_put 4 s args GW RNN) {post : (Int32 → SS → Prop) × (Nat → SS → Prop)} (HR : RetTI p l e r_N_put s m args below meth c Q D vcl (tyl cA) (wC cA a) (XC ad) A b_N_put 1 6 post.1 ∧ RetX p l e r_N_put s m args below meth c Q D vcl (tyl cA) (wC cA a) (XC ad) A 1 6 post.2) {σ : SS} {x1 : Int32} {x2 : Int32} {s0 : Int32} {H : Heap} {locs : List Loc} {ls : Array Slot} (h : f_N_put_24 post σ x1 x2 s0) (hw : CX D vcl (tyl cA) (wC cA a σ) (XC ad) A s H locs) (hl : lv_has ls 4 [(0, .ref (a 0)), (1, .int x1), (2, .int x2)]) : W p l e r_N_put s m args below meth c H locs 0 0 Q (F0 m 24 ls [.int s0]) := by
  have hx := fx.1
  have hb := fx.2.1
  unfold f_N_put_24 at h
  refine rsT (pc := 24) hw (rnTS (pc := 24) fx (c_N_require hfl h _) (pw_blind xtC) (fun U hU hW => ⟨rfl, cx_pre xtC hw hU hW⟩) cw_N_35 rfl ⟨Nat.le_of_ble_eq_true rfl, Nat.le_of_ble_eq_true rfl⟩ hl.1 (Nat.le_of_ble_eq_true rfl) d_N_put_24 ⟨Nat.le_of_ble_eq_true rfl, Nat.le_of_ble_eq_true rfl⟩) (fun _ σ_1 H locs hw h => ?_) (fun x9 kd9 σ9 H locs hw h hE hz => HR.2 (Nat.le_of_ble_eq_true rfl) (Nat.le_of_ble_eq_true rfl) hw h hE hz)
  refine W.eq (g2 := F0 m 27 ls []) rfl ?_
  refine lv_aload_n (pc := 27) hx hb d_N_put_27 rfl (lv_at hl 0 rfl) ?_
  refine gC_0_machine (pc := 28) fx hw kw_276 d_N_put_28 ?_
  refine lv_iload_n (pc := 31) hx hb d_N_put_31 rfl (lv_at hl 1 rfl) ?_
  refine rsI (pc := 32) hw (rnV (pc := 32) xtC fx hw (c_M_load h _) cw_N_39 (rcC_1 hw) rfl ⟨Nat.le_of_ble_eq_true rfl, Nat.le_of_ble_eq_true rfl⟩ hl.1 (Nat.le_of_ble_eq_true rfl) d_N_put_32 ⟨Nat.le_of_ble_eq_true rfl, Nat.le_of_ble_eq_true rfl⟩) (fun r_3 σ_2 H locs hw h => ?_)
  refine lv_istore_n (pc := 35) (lv' := [(3, .int r_3), (0, .ref (a 0)), (1, .int x1), (2, .int x2)]) hx hb d_N_put_35 rfl hl (by decide) rfl (fun ls hl => ?_)
  refine lv_aload_n (pc := 36) hx hb d_N_put_36 rfl (lv_at hl 1 rfl) ?_
  refine gC_0_machine (pc := 37) fx hw kw_276 d_N_put_37 ?_
  refine lv_iload_n (pc := 40) hx hb d_N_put_40 rfl (lv_at hl 2 rfl) ?_
  refine lv_iload_n (pc := 41) hx hb d_N_put_41 rfl (lv_at hl 3 rfl) ?_
  refine rsV (pc := 42) hw (rnV (pc := 42) xtC fx hw (c_M_store h _) cw_N_43 (rcC_1 hw) rfl ⟨Nat.le_of_ble_eq_true rfl, Nat.le_of_ble_eq_true rfl⟩ hl.1 (Nat.le_of_ble_eq_true rfl) d_N_put_42 ⟨Nat.le_of_ble_eq_true rfl, Nat.le_of_ble_eq_true rfl⟩) (fun σ_4 H locs hw h => ?_)
  refine lv_iload_n (pc := 45) hx hb d_N_put_45 rfl (lv_at hl 0 rfl) ?_
  exact HR.1 (Nat.le_of_ble_eq_true rfl) (Nat.le_of_ble_eq_true rfl) d_N_put_46 h hw
set_option maxHeartbeats 4000000 in
set_option maxRecDepth 100000 in
theorem e_N_put (hfl : l.flags = flags0) (fx : CallFix p m c b_N_put 4 s args GW RNN) {post : (Int32 → SS → Prop) × (Nat → SS → Prop)} (HR : RetTI p l e r_N_put s m args below meth c Q D vcl (tyl cA) (wC cA a) (XC ad) A b_N_put 1 6 post.1 ∧ RetX p l e r_N_put s m args below meth c Q D vcl (tyl cA) (wC cA a) (XC ad) A 1 6 post.2) {σ : SS} {x1 : Int32} {x2 : Int32} {H : Heap} {locs : List Loc} {ls : Array Slot} (h : f_N_put post σ x1 x2) (hw : CX D vcl (tyl cA) (wC cA a σ) (XC ad) A s H locs) (hl : lv_has ls 4 [(0, .ref (a 0)), (1, .int x1), (2, .int x2)]) : W p l e r_N_put s m args below meth c H locs 0 0 Q (F0 m 0 ls []) := by
  have hx := fx.1
  have hb := fx.2.1
  unfold f_N_put at h
  refine lv_iload_n (pc := 0) hx hb d_N_put_0 rfl (lv_at hl 1 rfl) ?_
  refine lv_sipush (pc := 1) (v := 32767) hx hb d_N_put_1 (by decide) ?_
  refine rsI (pc := 4) hw (rnS (pc := 4) xtC fx hw (c_N_isWithin h _) cw_N_30 rfl ⟨Nat.le_of_ble_eq_true rfl, Nat.le_of_ble_eq_true rfl⟩ hl.1 (Nat.le_of_ble_eq_true rfl) d_N_put_4 ⟨Nat.le_of_ble_eq_true rfl, Nat.le_of_ble_eq_true rfl⟩) (fun r_7 σ_6 H locs hw h => ?_)
  have zr_7 := h.1
  replace h := h.2
  refine lv_if_eq (pc := 7) (tgt := 23) hx hb d_N_put_7 (by decide) (fun c9 => ?_) (fun c9 => ?_)
  · replace h := h.1 c9
    refine lv_iconst (pc := 23) (v := 0) hx hb d_N_put_23 (by decide) ?_
    exact c_N_put_24 hfl fx HR h hw (lv_sub hl [0, 1, 2] rfl)
  · replace h := h.2 c9
    refine lv_iload_n (pc := 10) hx hb d_N_put_10 rfl (lv_at hl 2 rfl) ?_
    refine lv_ldc (pc := 11) (v := 65535) hx hb fx.2.2.2.1 (fx.2.2.2.2 _ kw_657) d_N_put_11 ?_
    refine rsI (pc := 13) hw (rnS (pc := 13) xtC fx hw (c_N_isWithin h _) cw_N_30 rfl ⟨Nat.le_of_ble_eq_true rfl, Nat.le_of_ble_eq_true rfl⟩ hl.1 (Nat.le_of_ble_eq_true rfl) d_N_put_13 ⟨Nat.le_of_ble_eq_true rfl, Nat.le_of_ble_eq_true rfl⟩) (fun r_9 σ_8 H locs hw h => ?_)
    have zr_9 := h.1
    replace h := h.2
    refine lv_if_eq (pc := 16) (tgt := 23) hx hb d_N_put_16 (by decide) (fun c9 => ?_) (fun c9 => ?_)
    · replace h := h.1 c9
      refine lv_iconst (pc := 23) (v := 0) hx hb d_N_put_23 (by decide) ?_
      exact c_N_put_24 hfl fx HR h hw (lv_sub hl [0, 1, 2] rfl)
    · replace h := h.2 c9
      refine lv_iconst (pc := 19) (v := 1) hx hb d_N_put_19 (by decide) ?_
      refine lv_goto (pc := 20) (tgt := 24) hx hb d_N_put_20 (by decide) ?_
      exact c_N_put_24 hfl fx HR h hw (lv_sub hl [0, 1, 2] rfl)
end
theorem c_N_put {l : Launch} {D : va_G} {cA : Nat → ClassId} {a : Nat → Nat} {ad : Nat → Nat → Nat} (hfl : l.flags = flags0) {σ : SS} {post : (Int32 → SS → Prop) × (Nat → SS → Prop)} {x1 : Int32} {x2 : Int32} (h : f_N_put post σ x1 x2) : mT (fun r => some (.int r)) l y_N_put b_N_put 4 (some .int) 7 1 6 101 D vcl (tyl cA) (wC cA a) (XC ad) σ [.ref (a 0), .int x1, .int x2] post.1 post.2 := met_TI (by decide) (Nat.le_of_ble_eq_true rfl) (fun p e s m args below meth c A Q fx HR HX H ls hw hl => e_N_put hfl fx ⟨HR, HX⟩ h hw hl)
abbrev r_N_word : Room := { frames := 7, cells := 1, slots := 6, locals := 101 }
def f_N_word (post : (Int32 → SS → Prop) × (Nat → SS → Prop)) (σ : SS) (x1 : Int32) : Prop := f_N_isWithin (fun r_2 σ_1 => f_N_require (fun _ σ_3 => f_M_load (fun r_5 σ_4 => post.1 r_5 σ_4) σ_3 x1) post.2 σ_1 r_2) σ x1 32767
section
variable {p : Program} {l : Launch} {e : Env} {s : State} {m : MethodId} {args : Array Value} {below : List Frame} {meth : Method} {c : Code} {Q : State → Prop} {D : va_G} {cA : Nat → ClassId} {a : Nat → Nat} {ad : Nat → Nat → Nat} {A : Nat → Prop}
set_option maxHeartbeats 4000000 in
set_option maxRecDepth 100000 in
theorem e_N_word (hfl : l.flags = flags0) (fx : CallFix p m c b_N_word 2 s args GW RNN) {post : (Int32 → SS → Prop) × (Nat → SS → Prop)} (HR : RetTI p l e r_N_word s m args below meth c Q D vcl (tyl cA) (wC cA a) (XC ad) A b_N_word 1 6 post.1 ∧ RetX p l e r_N_word s m args below meth c Q D vcl (tyl cA) (wC cA a) (XC ad) A 1 6 post.2) {σ : SS} {x1 : Int32} {H : Heap} {locs : List Loc} {ls : Array Slot} (h : f_N_word post σ x1) (hw : CX D vcl (tyl cA) (wC cA a σ) (XC ad) A s H locs) (hl : lv_has ls 2 [(0, .ref (a 0)), (1, .int x1)]) : W p l e r_N_word s m args below meth c H locs 0 0 Q (F0 m 0 ls []) := by
  have hx := fx.1
  have hb := fx.2.1
  unfold f_N_word at h
  refine lv_iload_n (pc := 0) hx hb d_N_word_0 rfl (lv_at hl 1 rfl) ?_
  refine lv_sipush (pc := 1) (v := 32767) hx hb d_N_word_1 (by decide) ?_
  refine rsI (pc := 4) hw (rnS (pc := 4) xtC fx hw (c_N_isWithin h _) cw_N_30 rfl ⟨Nat.le_of_ble_eq_true rfl, Nat.le_of_ble_eq_true rfl⟩ hl.1 (Nat.le_of_ble_eq_true rfl) d_N_word_4 ⟨Nat.le_of_ble_eq_true rfl, Nat.le_of_ble_eq_true rfl⟩) (fun r_2 σ_1 H locs hw h => ?_)
  have zr_2 := h.1
  replace h := h.2
  refine rsT (pc := 7) hw (rnTS (pc := 7) fx (c_N_require hfl h _) (pw_blind xtC) (fun U hU hW => ⟨rfl, cx_pre xtC hw hU hW⟩) cw_N_35 rfl ⟨Nat.le_of_ble_eq_true rfl, Nat.le_of_ble_eq_true rfl⟩ hl.1 (Nat.le_of_ble_eq_true rfl) d_N_word_7 ⟨Nat.le_of_ble_eq_true rfl, Nat.le_of_ble_eq_true rfl⟩) (fun _ σ_3 H locs hw h => ?_) (fun x9 kd9 σ9 H locs hw h hE hz => HR.2 (Nat.le_of_ble_eq_true rfl) (Nat.le_of_ble_eq_true rfl) hw h hE hz)
  refine W.eq (g2 := F0 m 10 ls []) rfl ?_
  refine lv_aload_n (pc := 10) hx hb d_N_word_10 rfl (lv_at hl 0 rfl) ?_
  refine gC_0_machine (pc := 11) fx hw kw_276 d_N_word_11 ?_
  refine lv_iload_n (pc := 14) hx hb d_N_word_14 rfl (lv_at hl 1 rfl) ?_
  refine rsI (pc := 15) hw (rnV (pc := 15) xtC fx hw (c_M_load h _) cw_N_39 (rcC_1 hw) rfl ⟨Nat.le_of_ble_eq_true rfl, Nat.le_of_ble_eq_true rfl⟩ hl.1 (Nat.le_of_ble_eq_true rfl) d_N_word_15 ⟨Nat.le_of_ble_eq_true rfl, Nat.le_of_ble_eq_true rfl⟩) (fun r_5 σ_4 H locs hw h => ?_)
  exact HR.1 (Nat.le_of_ble_eq_true rfl) (Nat.le_of_ble_eq_true rfl) d_N_word_18 h hw
end
theorem c_N_word {l : Launch} {D : va_G} {cA : Nat → ClassId} {a : Nat → Nat} {ad : Nat → Nat → Nat} (hfl : l.flags = flags0) {σ : SS} {post : (Int32 → SS → Prop) × (Nat → SS → Prop)} {x1 : Int32} (h : f_N_word post σ x1) : mT (fun r => some (.int r)) l y_N_word b_N_word 2 (some .int) 7 1 6 101 D vcl (tyl cA) (wC cA a) (XC ad) σ [.ref (a 0), .int x1] post.1 post.2 := met_TI (by decide) (Nat.le_of_ble_eq_true rfl) (fun p e s m args below meth c A Q fx HR HX H ls hw hl => e_N_word hfl fx ⟨HR, HX⟩ h hw hl)
abbrev r_N_set : Room := { frames := 7, cells := 1, slots := 6, locals := 101 }
def f_N_set_25 (post : (Int32 → SS → Prop) × (Nat → SS → Prop)) (σ : SS) (x1 : Int32) (x2 : Int32) (s0 : Int32) : Prop := f_N_require (fun _ σ_1 => f_M_readRegister (fun r_3 σ_2 => f_M_writeRegister (fun σ_4 => post.1 r_3 σ_4) σ_2 x1 x2) σ_1 x1) post.2 σ s0
def f_N_set (post : (Int32 → SS → Prop) × (Nat → SS → Prop)) (σ : SS) (x1 : Int32) (x2 : Int32) : Prop := f_N_isWithin (fun r_7 σ_6 => br (r_7 = 0) (f_N_set_25 post σ_6 x1 x2 0) (f_N_highestOf (fun r_9 σ_8 => f_N_isWithin (fun r_11 σ_10 => br (r_11 = 0) (f_N_set_25 post σ_10 x1 x2 0) (f_N_set_25 post σ_10 x1 x2 1)) σ_8 x2 r_9) σ_6 x1)) σ x1 6
section
variable {p : Program} {l : Launch} {e : Env} {s : State} {m : MethodId} {args : Array Value} {below : List Frame} {meth : Method} {c : Code} {Q : State → Prop} {D : va_G} {cA : Nat → ClassId} {a : Nat → Nat} {ad : Nat → Nat → Nat} {A : Nat → Prop}
set_option maxHeartbeats 4000000 in
set_option maxRecDepth 100000 in
theorem c_N_set_25 (hfl : l.flags = flags0) (fx : CallFix p m c b_N_set 4 s args GW RNN) {post : (Int32 → SS → Prop) × (Nat → SS → Prop)} (HR : RetTI p l e r_N_set s m args below meth c Q D vcl (tyl cA) (wC cA a) (XC ad) A b_N_set 1 6 post.1 ∧ RetX p l e r_N_set s m args below meth c Q D vcl (tyl cA) (wC cA a) (XC ad) A 1 6 post.2) {σ : SS} {x1 : Int32} {x2 : Int32} {s0 : Int32} {H : Heap} {locs : List Loc} {ls : Array Slot} (h : f_N_set_25 post σ x1 x2 s0) (hw : CX D vcl (tyl cA) (wC cA a σ) (XC ad) A s H locs) (hl : lv_has ls 4 [(0, .ref (a 0)), (1, .int x1), (2, .int x2)]) : W p l e r_N_set s m args below meth c H locs 0 0 Q (F0 m 25 ls [.int s0]) := by
  have hx := fx.1
  have hb := fx.2.1
  unfold f_N_set_25 at h
  refine rsT (pc := 25) hw (rnTS (pc := 25) fx (c_N_require hfl h _) (pw_blind xtC) (fun U hU hW => ⟨rfl, cx_pre xtC hw hU hW⟩) cw_N_35 rfl ⟨Nat.le_of_ble_eq_true rfl, Nat.le_of_ble_eq_true rfl⟩ hl.1 (Nat.le_of_ble_eq_true rfl) d_N_set_25 ⟨Nat.le_of_ble_eq_true rfl, Nat.le_of_ble_eq_true rfl⟩) (fun _ σ_1 H locs hw h => ?_) (fun x9 kd9 σ9 H locs hw h hE hz => HR.2 (Nat.le_of_ble_eq_true rfl) (Nat.le_of_ble_eq_true rfl) hw h hE hz)
  refine W.eq (g2 := F0 m 28 ls []) rfl ?_
  refine lv_aload_n (pc := 28) hx hb d_N_set_28 rfl (lv_at hl 0 rfl) ?_
  refine gC_0_machine (pc := 29) fx hw kw_276 d_N_set_29 ?_
  refine lv_iload_n (pc := 32) hx hb d_N_set_32 rfl (lv_at hl 1 rfl) ?_
  refine rsI (pc := 33) hw (rnV (pc := 33) xtC fx hw (c_M_readRegister h _) cw_N_50 (rcC_1 hw) rfl ⟨Nat.le_of_ble_eq_true rfl, Nat.le_of_ble_eq_true rfl⟩ hl.1 (Nat.le_of_ble_eq_true rfl) d_N_set_33 ⟨Nat.le_of_ble_eq_true rfl, Nat.le_of_ble_eq_true rfl⟩) (fun r_3 σ_2 H locs hw h => ?_)
  refine lv_istore_n (pc := 36) (lv' := [(3, .int r_3), (0, .ref (a 0)), (1, .int x1), (2, .int x2)]) hx hb d_N_set_36 rfl hl (by decide) rfl (fun ls hl => ?_)
  refine lv_aload_n (pc := 37) hx hb d_N_set_37 rfl (lv_at hl 1 rfl) ?_
  refine gC_0_machine (pc := 38) fx hw kw_276 d_N_set_38 ?_
  refine lv_iload_n (pc := 41) hx hb d_N_set_41 rfl (lv_at hl 2 rfl) ?_
  refine lv_iload_n (pc := 42) hx hb d_N_set_42 rfl (lv_at hl 3 rfl) ?_
  refine rsV (pc := 43) hw (rnV (pc := 43) xtC fx hw (c_M_writeRegister h _) cw_N_53 (rcC_1 hw) rfl ⟨Nat.le_of_ble_eq_true rfl, Nat.le_of_ble_eq_true rfl⟩ hl.1 (Nat.le_of_ble_eq_true rfl) d_N_set_43 ⟨Nat.le_of_ble_eq_true rfl, Nat.le_of_ble_eq_true rfl⟩) (fun σ_4 H locs hw h => ?_)
  refine lv_iload_n (pc := 46) hx hb d_N_set_46 rfl (lv_at hl 0 rfl) ?_
  exact HR.1 (Nat.le_of_ble_eq_true rfl) (Nat.le_of_ble_eq_true rfl) d_N_set_47 h hw
set_option maxHeartbeats 4000000 in
set_option maxRecDepth 100000 in
theorem e_N_set (hfl : l.flags = flags0) (fx : CallFix p m c b_N_set 4 s args GW RNN) {post : (Int32 → SS → Prop) × (Nat → SS → Prop)} (HR : RetTI p l e r_N_set s m args below meth c Q D vcl (tyl cA) (wC cA a) (XC ad) A b_N_set 1 6 post.1 ∧ RetX p l e r_N_set s m args below meth c Q D vcl (tyl cA) (wC cA a) (XC ad) A 1 6 post.2) {σ : SS} {x1 : Int32} {x2 : Int32} {H : Heap} {locs : List Loc} {ls : Array Slot} (h : f_N_set post σ x1 x2) (hw : CX D vcl (tyl cA) (wC cA a σ) (XC ad) A s H locs) (hl : lv_has ls 4 [(0, .ref (a 0)), (1, .int x1), (2, .int x2)]) : W p l e r_N_set s m args below meth c H locs 0 0 Q (F0 m 0 ls []) := by
  have hx := fx.1
  have hb := fx.2.1
  unfold f_N_set at h
  refine lv_iload_n (pc := 0) hx hb d_N_set_0 rfl (lv_at hl 1 rfl) ?_
  refine lv_bipush (pc := 1) (v := 6) hx hb d_N_set_1 (by decide) ?_
  refine rsI (pc := 3) hw (rnS (pc := 3) xtC fx hw (c_N_isWithin h _) cw_N_30 rfl ⟨Nat.le_of_ble_eq_true rfl, Nat.le_of_ble_eq_true rfl⟩ hl.1 (Nat.le_of_ble_eq_true rfl) d_N_set_3 ⟨Nat.le_of_ble_eq_true rfl, Nat.le_of_ble_eq_true rfl⟩) (fun r_7 σ_6 H locs hw h => ?_)
  have zr_7 := h.1
  replace h := h.2
  refine lv_if_eq (pc := 6) (tgt := 24) hx hb d_N_set_6 (by decide) (fun c9 => ?_) (fun c9 => ?_)
  · replace h := h.1 c9
    refine lv_iconst (pc := 24) (v := 0) hx hb d_N_set_24 (by decide) ?_
    exact c_N_set_25 hfl fx HR h hw (lv_sub hl [0, 1, 2] rfl)
  · replace h := h.2 c9
    refine lv_iload_n (pc := 9) hx hb d_N_set_9 rfl (lv_at hl 2 rfl) ?_
    refine lv_iload_n (pc := 10) hx hb d_N_set_10 rfl (lv_at hl 1 rfl) ?_
    refine rsI (pc := 11) hw (rnS (pc := 11) xtC fx hw (c_N_highestOf h _) cw_N_47 rfl ⟨Nat.le_of_ble_eq_true rfl, Nat.le_of_ble_eq_true rfl⟩ hl.1 (Nat.le_of_ble_eq_true rfl) d_N_set_11 ⟨Nat.le_of_ble_eq_true rfl, Nat.le_of_ble_eq_true rfl⟩) (fun r_9 σ_8 H locs hw h => ?_)
    refine rsI (pc := 14) hw (rnS (pc := 14) xtC fx hw (c_N_isWithin h _) cw_N_30 rfl ⟨Nat.le_of_ble_eq_true rfl, Nat.le_of_ble_eq_true rfl⟩ hl.1 (Nat.le_of_ble_eq_true rfl) d_N_set_14 ⟨Nat.le_of_ble_eq_true rfl, Nat.le_of_ble_eq_true rfl⟩) (fun r_11 σ_10 H locs hw h => ?_)
    have zr_11 := h.1
    replace h := h.2
    refine lv_if_eq (pc := 17) (tgt := 24) hx hb d_N_set_17 (by decide) (fun c9 => ?_) (fun c9 => ?_)
    · replace h := h.1 c9
      refine lv_iconst (pc := 24) (v := 0) hx hb d_N_set_24 (by decide) ?_
      exact c_N_set_25 hfl fx HR h hw (lv_sub hl [0, 1, 2] rfl)
    · replace h := h.2 c9
      refine lv_iconst (pc := 20) (v := 1) hx hb d_N_set_20 (by decide) ?_
      refine lv_goto (pc := 21) (tgt := 25) hx hb d_N_set_21 (by decide) ?_
      exact c_N_set_25 hfl fx HR h hw (lv_sub hl [0, 1, 2] rfl)
end
theorem c_N_set {l : Launch} {D : va_G} {cA : Nat → ClassId} {a : Nat → Nat} {ad : Nat → Nat → Nat} (hfl : l.flags = flags0) {σ : SS} {post : (Int32 → SS → Prop) × (Nat → SS → Prop)} {x1 : Int32} {x2 : Int32} (h : f_N_set post σ x1 x2) : mT (fun r => some (.int r)) l y_N_set b_N_set 4 (some .int) 7 1 6 101 D vcl (tyl cA) (wC cA a) (XC ad) σ [.ref (a 0), .int x1, .int x2] post.1 post.2 := met_TI (by decide) (Nat.le_of_ble_eq_true rfl) (fun p e s m args below meth c A Q fx HR HX H ls hw hl => e_N_set hfl fx ⟨HR, HX⟩ h hw hl)
abbrev r_N_register : Room := { frames := 7, cells := 1, slots := 6, locals := 101 }
def f_N_register (post : (Int32 → SS → Prop) × (Nat → SS → Prop)) (σ : SS) (x1 : Int32) : Prop := f_N_isWithin (fun r_2 σ_1 => f_N_require (fun _ σ_3 => f_M_readRegister (fun r_5 σ_4 => post.1 r_5 σ_4) σ_3 x1) post.2 σ_1 r_2) σ x1 10
section
variable {p : Program} {l : Launch} {e : Env} {s : State} {m : MethodId} {args : Array Value} {below : List Frame} {meth : Method} {c : Code} {Q : State → Prop} {D : va_G} {cA : Nat → ClassId} {a : Nat → Nat} {ad : Nat → Nat → Nat} {A : Nat → Prop}
set_option maxHeartbeats 4000000 in
set_option maxRecDepth 100000 in
theorem e_N_register (hfl : l.flags = flags0) (fx : CallFix p m c b_N_register 2 s args GW RNN) {post : (Int32 → SS → Prop) × (Nat → SS → Prop)} (HR : RetTI p l e r_N_register s m args below meth c Q D vcl (tyl cA) (wC cA a) (XC ad) A b_N_register 1 6 post.1 ∧ RetX p l e r_N_register s m args below meth c Q D vcl (tyl cA) (wC cA a) (XC ad) A 1 6 post.2) {σ : SS} {x1 : Int32} {H : Heap} {locs : List Loc} {ls : Array Slot} (h : f_N_register post σ x1) (hw : CX D vcl (tyl cA) (wC cA a σ) (XC ad) A s H locs) (hl : lv_has ls 2 [(0, .ref (a 0)), (1, .int x1)]) : W p l e r_N_register s m args below meth c H locs 0 0 Q (F0 m 0 ls []) := by
  have hx := fx.1
  have hb := fx.2.1
  unfold f_N_register at h
  refine lv_iload_n (pc := 0) hx hb d_N_register_0 rfl (lv_at hl 1 rfl) ?_
  refine lv_bipush (pc := 1) (v := 10) hx hb d_N_register_1 (by decide) ?_
  refine rsI (pc := 3) hw (rnS (pc := 3) xtC fx hw (c_N_isWithin h _) cw_N_30 rfl ⟨Nat.le_of_ble_eq_true rfl, Nat.le_of_ble_eq_true rfl⟩ hl.1 (Nat.le_of_ble_eq_true rfl) d_N_register_3 ⟨Nat.le_of_ble_eq_true rfl, Nat.le_of_ble_eq_true rfl⟩) (fun r_2 σ_1 H locs hw h => ?_)
  have zr_2 := h.1
  replace h := h.2
  refine rsT (pc := 6) hw (rnTS (pc := 6) fx (c_N_require hfl h _) (pw_blind xtC) (fun U hU hW => ⟨rfl, cx_pre xtC hw hU hW⟩) cw_N_35 rfl ⟨Nat.le_of_ble_eq_true rfl, Nat.le_of_ble_eq_true rfl⟩ hl.1 (Nat.le_of_ble_eq_true rfl) d_N_register_6 ⟨Nat.le_of_ble_eq_true rfl, Nat.le_of_ble_eq_true rfl⟩) (fun _ σ_3 H locs hw h => ?_) (fun x9 kd9 σ9 H locs hw h hE hz => HR.2 (Nat.le_of_ble_eq_true rfl) (Nat.le_of_ble_eq_true rfl) hw h hE hz)
  refine W.eq (g2 := F0 m 9 ls []) rfl ?_
  refine lv_aload_n (pc := 9) hx hb d_N_register_9 rfl (lv_at hl 0 rfl) ?_
  refine gC_0_machine (pc := 10) fx hw kw_276 d_N_register_10 ?_
  refine lv_iload_n (pc := 13) hx hb d_N_register_13 rfl (lv_at hl 1 rfl) ?_
  refine rsI (pc := 14) hw (rnV (pc := 14) xtC fx hw (c_M_readRegister h _) cw_N_50 (rcC_1 hw) rfl ⟨Nat.le_of_ble_eq_true rfl, Nat.le_of_ble_eq_true rfl⟩ hl.1 (Nat.le_of_ble_eq_true rfl) d_N_register_14 ⟨Nat.le_of_ble_eq_true rfl, Nat.le_of_ble_eq_true rfl⟩) (fun r_5 σ_4 H locs hw h => ?_)
  exact HR.1 (Nat.le_of_ble_eq_true rfl) (Nat.le_of_ble_eq_true rfl) d_N_register_17 h hw
end
theorem c_N_register {l : Launch} {D : va_G} {cA : Nat → ClassId} {a : Nat → Nat} {ad : Nat → Nat → Nat} (hfl : l.flags = flags0) {σ : SS} {post : (Int32 → SS → Prop) × (Nat → SS → Prop)} {x1 : Int32} (h : f_N_register post σ x1) : mT (fun r => some (.int r)) l y_N_register b_N_register 2 (some .int) 7 1 6 101 D vcl (tyl cA) (wC cA a) (XC ad) σ [.ref (a 0), .int x1] post.1 post.2 := met_TI (by decide) (Nat.le_of_ble_eq_true rfl) (fun p e s m args below meth c A Q fx HR HX H ls hw hl => e_N_register hfl fx ⟨HR, HX⟩ h hw hl)
abbrev r_N_device : Room := { frames := 7, cells := 1, slots := 6, locals := 101 }
def f_N_device_25 (post : (Int32 → SS → Prop) × (Nat → SS → Prop)) (σ : SS) (x1 : Int32) (x2 : Int32) (s0 : Int32) : Prop := f_N_require (fun _ σ_1 => f_M_readDevice (fun r_3 σ_2 => post.1 r_3 σ_2) σ_1 x1 x2) post.2 σ s0
def f_N_device (post : (Int32 → SS → Prop) × (Nat → SS → Prop)) (σ : SS) (x1 : Int32) (x2 : Int32) : Prop := br (x1 < 8) (f_N_device_25 post σ x1 x2 0) (br (10 < x1) (f_N_device_25 post σ x1 x2 0) (f_N_isWithin (fun r_5 σ_4 => br (r_5 = 0) (f_N_device_25 post σ_4 x1 x2 0) (f_N_device_25 post σ_4 x1 x2 1)) σ x2 2))
section
variable {p : Program} {l : Launch} {e : Env} {s : State} {m : MethodId} {args : Array Value} {below : List Frame} {meth : Method} {c : Code} {Q : State → Prop} {D : va_G} {cA : Nat → ClassId} {a : Nat → Nat} {ad : Nat → Nat → Nat} {A : Nat → Prop}
set_option maxHeartbeats 4000000 in
set_option maxRecDepth 100000 in
theorem c_N_device_25 (hfl : l.flags = flags0) (fx : CallFix p m c b_N_device 3 s args GW RNN) {post : (Int32 → SS → Prop) × (Nat → SS → Prop)} (HR : RetTI p l e r_N_device s m args below meth c Q D vcl (tyl cA) (wC cA a) (XC ad) A b_N_device 1 6 post.1 ∧ RetX p l e r_N_device s m args below meth c Q D vcl (tyl cA) (wC cA a) (XC ad) A 1 6 post.2) {σ : SS} {x1 : Int32} {x2 : Int32} {s0 : Int32} {H : Heap} {locs : List Loc} {ls : Array Slot} (h : f_N_device_25 post σ x1 x2 s0) (hw : CX D vcl (tyl cA) (wC cA a σ) (XC ad) A s H locs) (hl : lv_has ls 3 [(0, .ref (a 0)), (1, .int x1), (2, .int x2)]) : W p l e r_N_device s m args below meth c H locs 0 0 Q (F0 m 25 ls [.int s0]) := by
  have hx := fx.1
  have hb := fx.2.1
  unfold f_N_device_25 at h
  refine rsT (pc := 25) hw (rnTS (pc := 25) fx (c_N_require hfl h _) (pw_blind xtC) (fun U hU hW => ⟨rfl, cx_pre xtC hw hU hW⟩) cw_N_35 rfl ⟨Nat.le_of_ble_eq_true rfl, Nat.le_of_ble_eq_true rfl⟩ hl.1 (Nat.le_of_ble_eq_true rfl) d_N_device_25 ⟨Nat.le_of_ble_eq_true rfl, Nat.le_of_ble_eq_true rfl⟩) (fun _ σ_1 H locs hw h => ?_) (fun x9 kd9 σ9 H locs hw h hE hz => HR.2 (Nat.le_of_ble_eq_true rfl) (Nat.le_of_ble_eq_true rfl) hw h hE hz)
  refine W.eq (g2 := F0 m 28 ls []) rfl ?_
  refine lv_aload_n (pc := 28) hx hb d_N_device_28 rfl (lv_at hl 0 rfl) ?_
  refine gC_0_machine (pc := 29) fx hw kw_276 d_N_device_29 ?_
  refine lv_iload_n (pc := 32) hx hb d_N_device_32 rfl (lv_at hl 1 rfl) ?_
  refine lv_iload_n (pc := 33) hx hb d_N_device_33 rfl (lv_at hl 2 rfl) ?_
  refine rsI (pc := 34) hw (rnV (pc := 34) xtC fx hw (c_M_readDevice h _) cw_N_56 (rcC_1 hw) rfl ⟨Nat.le_of_ble_eq_true rfl, Nat.le_of_ble_eq_true rfl⟩ hl.1 (Nat.le_of_ble_eq_true rfl) d_N_device_34 ⟨Nat.le_of_ble_eq_true rfl, Nat.le_of_ble_eq_true rfl⟩) (fun r_3 σ_2 H locs hw h => ?_)
  exact HR.1 (Nat.le_of_ble_eq_true rfl) (Nat.le_of_ble_eq_true rfl) d_N_device_37 h hw
set_option maxHeartbeats 4000000 in
set_option maxRecDepth 100000 in
theorem e_N_device (hfl : l.flags = flags0) (fx : CallFix p m c b_N_device 3 s args GW RNN) {post : (Int32 → SS → Prop) × (Nat → SS → Prop)} (HR : RetTI p l e r_N_device s m args below meth c Q D vcl (tyl cA) (wC cA a) (XC ad) A b_N_device 1 6 post.1 ∧ RetX p l e r_N_device s m args below meth c Q D vcl (tyl cA) (wC cA a) (XC ad) A 1 6 post.2) {σ : SS} {x1 : Int32} {x2 : Int32} {H : Heap} {locs : List Loc} {ls : Array Slot} (h : f_N_device post σ x1 x2) (hw : CX D vcl (tyl cA) (wC cA a σ) (XC ad) A s H locs) (hl : lv_has ls 3 [(0, .ref (a 0)), (1, .int x1), (2, .int x2)]) : W p l e r_N_device s m args below meth c H locs 0 0 Q (F0 m 0 ls []) := by
  have hx := fx.1
  have hb := fx.2.1
  unfold f_N_device at h
  refine lv_iload_n (pc := 0) hx hb d_N_device_0 rfl (lv_at hl 1 rfl) ?_
  refine lv_bipush (pc := 1) (v := 8) hx hb d_N_device_1 (by decide) ?_
  refine lv_icmp_lt (pc := 3) (tgt := 24) hx hb d_N_device_3 (by decide) (fun c9 => ?_) (fun c9 => ?_)
  · replace h := h.1 c9
    refine lv_iconst (pc := 24) (v := 0) hx hb d_N_device_24 (by decide) ?_
    exact c_N_device_25 hfl fx HR h hw (lv_sub hl [0, 1, 2] rfl)
  · replace h := h.2 c9
    refine lv_iload_n (pc := 6) hx hb d_N_device_6 rfl (lv_at hl 1 rfl) ?_
    refine lv_bipush (pc := 7) (v := 10) hx hb d_N_device_7 (by decide) ?_
    refine lv_icmp_gt (pc := 9) (tgt := 24) hx hb d_N_device_9 (by decide) (fun c9 => ?_) (fun c9 => ?_)
    · replace h := h.1 c9
      refine lv_iconst (pc := 24) (v := 0) hx hb d_N_device_24 (by decide) ?_
      exact c_N_device_25 hfl fx HR h hw (lv_sub hl [0, 1, 2] rfl)
    · replace h := h.2 c9
      refine lv_iload_n (pc := 12) hx hb d_N_device_12 rfl (lv_at hl 2 rfl) ?_
      refine lv_iconst (pc := 13) (v := 2) hx hb d_N_device_13 (by decide) ?_
      refine rsI (pc := 14) hw (rnS (pc := 14) xtC fx hw (c_N_isWithin h _) cw_N_30 rfl ⟨Nat.le_of_ble_eq_true rfl, Nat.le_of_ble_eq_true rfl⟩ hl.1 (Nat.le_of_ble_eq_true rfl) d_N_device_14 ⟨Nat.le_of_ble_eq_true rfl, Nat.le_of_ble_eq_true rfl⟩) (fun r_5 σ_4 H locs hw h => ?_)
      have zr_5 := h.1
      replace h := h.2
      refine lv_if_eq (pc := 17) (tgt := 24) hx hb d_N_device_17 (by decide) (fun c9 => ?_) (fun c9 => ?_)
      · replace h := h.1 c9
        refine lv_iconst (pc := 24) (v := 0) hx hb d_N_device_24 (by decide) ?_
        exact c_N_device_25 hfl fx HR h hw (lv_sub hl [0, 1, 2] rfl)
      · replace h := h.2 c9
        refine lv_iconst (pc := 20) (v := 1) hx hb d_N_device_20 (by decide) ?_
        refine lv_goto (pc := 21) (tgt := 25) hx hb d_N_device_21 (by decide) ?_
        exact c_N_device_25 hfl fx HR h hw (lv_sub hl [0, 1, 2] rfl)
end
theorem c_N_device {l : Launch} {D : va_G} {cA : Nat → ClassId} {a : Nat → Nat} {ad : Nat → Nat → Nat} (hfl : l.flags = flags0) {σ : SS} {post : (Int32 → SS → Prop) × (Nat → SS → Prop)} {x1 : Int32} {x2 : Int32} (h : f_N_device post σ x1 x2) : mT (fun r => some (.int r)) l y_N_device b_N_device 3 (some .int) 7 1 6 101 D vcl (tyl cA) (wC cA a) (XC ad) σ [.ref (a 0), .int x1, .int x2] post.1 post.2 := met_TI (by decide) (Nat.le_of_ble_eq_true rfl) (fun p e s m args below meth c A Q fx HR HX H ls hw hl => e_N_device hfl fx ⟨HR, HX⟩ h hw hl)
abbrev r_N_tape : Room := { frames := 7, cells := 2, slots := 12, locals := 101 }
def f_N_tape_31 (post : (Int32 → SS → Prop) × (Nat → SS → Prop)) (σ : SS) (x1 : Int32) (s0 : Int32) : Prop := f_N_requireRoom (fun _ σ_1 => f_E_append (fun σ_2 => post.1 (σ_2.1 14) σ_2) σ_1 x1) post.2 σ s0
def f_N_tape (post : (Int32 → SS → Prop) × (Nat → SS → Prop)) (σ : SS) (x1 : Int32) : Prop := f_N_isWithin (fun r_5 σ_4 => f_N_require (fun _ σ_6 => br (500 ≤ (σ_6.1 14)) (f_N_tape_31 post σ_6 x1 0) (f_N_tape_31 post σ_6 x1 1)) post.2 σ_4 r_5) σ x1 255
section
variable {p : Program} {l : Launch} {e : Env} {s : State} {m : MethodId} {args : Array Value} {below : List Frame} {meth : Method} {c : Code} {Q : State → Prop} {D : va_G} {cA : Nat → ClassId} {a : Nat → Nat} {ad : Nat → Nat → Nat} {A : Nat → Prop}
set_option maxHeartbeats 4000000 in
set_option maxRecDepth 100000 in
theorem c_N_tape_31 (hfl : l.flags = flags0) (fx : CallFix p m c b_N_tape 2 s args GW RNN) {post : (Int32 → SS → Prop) × (Nat → SS → Prop)} (HR : RetTI p l e r_N_tape s m args below meth c Q D vcl (tyl cA) (wC cA a) (XC ad) A b_N_tape 2 12 post.1 ∧ RetX p l e r_N_tape s m args below meth c Q D vcl (tyl cA) (wC cA a) (XC ad) A 2 12 post.2) {σ : SS} {x1 : Int32} {s0 : Int32} {H : Heap} {locs : List Loc} {ls : Array Slot} (h : f_N_tape_31 post σ x1 s0) (hw : CX D vcl (tyl cA) (wC cA a σ) (XC ad) A s H locs) (hl : lv_has ls 2 [(0, .ref (a 0)), (1, .int x1)]) : W p l e r_N_tape s m args below meth c H locs 1 6 Q (F0 m 31 ls [.int s0]) := by
  have hx := fx.1
  have hb := fx.2.1
  unfold f_N_tape_31 at h
  refine rsT (pc := 31) hw (rnTS (pc := 31) fx (c_N_requireRoom hfl h _) (pw_blind xtC) (fun U hU hW => ⟨rfl, cx_pre xtC hw hU hW⟩) cw_N_70 rfl ⟨Nat.le_of_ble_eq_true rfl, Nat.le_of_ble_eq_true rfl⟩ hl.1 (Nat.le_of_ble_eq_true rfl) d_N_tape_31 ⟨Nat.le_of_ble_eq_true rfl, Nat.le_of_ble_eq_true rfl⟩) (fun _ σ_1 H locs hw h => ?_) (fun x9 kd9 σ9 H locs hw h hE hz => HR.2 (Nat.le_of_ble_eq_true rfl) (Nat.le_of_ble_eq_true rfl) hw h hE hz)
  refine W.eq (g2 := F0 m 34 ls []) rfl ?_
  refine lv_aload_n (pc := 34) hx hb d_N_tape_34 rfl (lv_at hl 0 rfl) ?_
  refine gC_0_machine (pc := 35) fx hw kw_276 d_N_tape_35 ?_
  refine gC_1_reader (pc := 38) fx hw kw_125 d_N_tape_38 ?_
  refine lv_iload_n (pc := 41) hx hb d_N_tape_41 rfl (lv_at hl 1 rfl) ?_
  refine rsV (pc := 42) hw (rnV (pc := 42) xtC fx hw (c_E_append h _) cw_N_73 (rcC_4 hw) rfl ⟨Nat.le_of_ble_eq_true rfl, Nat.le_of_ble_eq_true rfl⟩ hl.1 (Nat.le_of_ble_eq_true rfl) d_N_tape_42 ⟨Nat.le_of_ble_eq_true rfl, Nat.le_of_ble_eq_true rfl⟩) (fun σ_2 H locs hw h => ?_)
  refine lv_aload_n (pc := 45) hx hb d_N_tape_45 rfl (lv_at hl 0 rfl) ?_
  refine gC_0_machine (pc := 46) fx hw kw_276 d_N_tape_46 ?_
  refine gC_1_reader (pc := 49) fx hw kw_125 d_N_tape_49 ?_
  refine gC_4_waiting (pc := 52) fx hw kw_53 d_N_tape_52 ?_
  exact HR.1 (Nat.le_of_ble_eq_true rfl) (Nat.le_of_ble_eq_true rfl) d_N_tape_55 h hw
set_option maxHeartbeats 4000000 in
set_option maxRecDepth 100000 in
theorem e_N_tape (hfl : l.flags = flags0) (fx : CallFix p m c b_N_tape 2 s args GW RNN) {post : (Int32 → SS → Prop) × (Nat → SS → Prop)} (HR : RetTI p l e r_N_tape s m args below meth c Q D vcl (tyl cA) (wC cA a) (XC ad) A b_N_tape 2 12 post.1 ∧ RetX p l e r_N_tape s m args below meth c Q D vcl (tyl cA) (wC cA a) (XC ad) A 2 12 post.2) {σ : SS} {x1 : Int32} {H : Heap} {locs : List Loc} {ls : Array Slot} (h : f_N_tape post σ x1) (hw : CX D vcl (tyl cA) (wC cA a σ) (XC ad) A s H locs) (hl : lv_has ls 2 [(0, .ref (a 0)), (1, .int x1)]) : W p l e r_N_tape s m args below meth c H locs 0 0 Q (F0 m 0 ls []) := by
  have hx := fx.1
  have hb := fx.2.1
  unfold f_N_tape at h
  refine lv_iload_n (pc := 0) hx hb d_N_tape_0 rfl (lv_at hl 1 rfl) ?_
  refine lv_sipush (pc := 1) (v := 255) hx hb d_N_tape_1 (by decide) ?_
  refine rsI (pc := 4) hw (rnS (pc := 4) xtC fx hw (c_N_isWithin h _) cw_N_30 rfl ⟨Nat.le_of_ble_eq_true rfl, Nat.le_of_ble_eq_true rfl⟩ hl.1 (Nat.le_of_ble_eq_true rfl) d_N_tape_4 ⟨Nat.le_of_ble_eq_true rfl, Nat.le_of_ble_eq_true rfl⟩) (fun r_5 σ_4 H locs hw h => ?_)
  have zr_5 := h.1
  replace h := h.2
  refine rsT (pc := 7) hw (rnTS (pc := 7) fx (c_N_require hfl h _) (pw_blind xtC) (fun U hU hW => ⟨rfl, cx_pre xtC hw hU hW⟩) cw_N_35 rfl ⟨Nat.le_of_ble_eq_true rfl, Nat.le_of_ble_eq_true rfl⟩ hl.1 (Nat.le_of_ble_eq_true rfl) d_N_tape_7 ⟨Nat.le_of_ble_eq_true rfl, Nat.le_of_ble_eq_true rfl⟩) (fun _ σ_6 H locs hw h => ?_) (fun x9 kd9 σ9 H locs hw h hE hz => HR.2 (Nat.le_of_ble_eq_true rfl) (Nat.le_of_ble_eq_true rfl) hw h hE hz)
  refine W.eq (g2 := F0 m 10 ls []) rfl ?_
  refine lv_aload_n (pc := 10) hx hb d_N_tape_10 rfl (lv_at hl 0 rfl) ?_
  refine gC_0_machine (pc := 11) fx hw kw_276 d_N_tape_11 ?_
  refine gC_1_reader (pc := 14) fx hw kw_125 d_N_tape_14 ?_
  refine gC_4_waiting (pc := 17) fx hw kw_53 d_N_tape_17 ?_
  refine lv_sipush (pc := 20) (v := 500) hx hb d_N_tape_20 (by decide) ?_
  refine lv_icmp_ge (pc := 23) (tgt := 30) hx hb d_N_tape_23 (by decide) (fun c9 => ?_) (fun c9 => ?_)
  · replace h := h.1 c9
    refine lv_iconst (pc := 30) (v := 0) hx hb d_N_tape_30 (by decide) ?_
    exact c_N_tape_31 hfl fx HR h hw (lv_sub hl [0, 1] rfl)
  · replace h := h.2 c9
    refine lv_iconst (pc := 26) (v := 1) hx hb d_N_tape_26 (by decide) ?_
    refine lv_goto (pc := 27) (tgt := 31) hx hb d_N_tape_27 (by decide) ?_
    exact c_N_tape_31 hfl fx HR h hw (lv_sub hl [0, 1] rfl)
end
theorem c_N_tape {l : Launch} {D : va_G} {cA : Nat → ClassId} {a : Nat → Nat} {ad : Nat → Nat → Nat} (hfl : l.flags = flags0) {σ : SS} {post : (Int32 → SS → Prop) × (Nat → SS → Prop)} {x1 : Int32} (h : f_N_tape post σ x1) : mT (fun r => some (.int r)) l y_N_tape b_N_tape 2 (some .int) 7 2 12 101 D vcl (tyl cA) (wC cA a) (XC ad) σ [.ref (a 0), .int x1] post.1 post.2 := met_TI (by decide) (Nat.le_of_ble_eq_true rfl) (fun p e s m args below meth c A Q fx HR HX H ls hw hl => e_N_tape hfl fx ⟨HR, HX⟩ h hw hl)
abbrev r_N_run : Room := { frames := 7, cells := 1, slots := 6, locals := 160 }
def f_N_run_17 (post : (Int32 → SS → Prop) × (Nat → SS → Prop)) (σ : SS) (x1 : Int32) (s0 : Int32) : Prop := f_N_require (fun _ σ_1 => f_M_runUpTo (fun r_3 σ_2 => post.1 r_3 σ_2) σ_1 x1) post.2 σ s0
def f_N_run (post : (Int32 → SS → Prop) × (Nat → SS → Prop)) (σ : SS) (x1 : Int32) : Prop := br (x1 < 1) (f_N_run_17 post σ x1 0) (br (5000 < x1) (f_N_run_17 post σ x1 0) (f_N_run_17 post σ x1 1))
section
variable {p : Program} {l : Launch} {e : Env} {s : State} {m : MethodId} {args : Array Value} {below : List Frame} {meth : Method} {c : Code} {Q : State → Prop} {D : va_G} {cA : Nat → ClassId} {a : Nat → Nat} {ad : Nat → Nat → Nat} {A : Nat → Prop}
set_option maxHeartbeats 4000000 in
set_option maxRecDepth 100000 in
theorem c_N_run_17 (hfl : l.flags = flags0) (fx : CallFix p m c b_N_run 2 s args GW RNN) {post : (Int32 → SS → Prop) × (Nat → SS → Prop)} (HR : RetTI p l e r_N_run s m args below meth c Q D vcl (tyl cA) (wC cA a) (XC ad) A b_N_run 1 6 post.1 ∧ RetX p l e r_N_run s m args below meth c Q D vcl (tyl cA) (wC cA a) (XC ad) A 1 6 post.2) {σ : SS} {x1 : Int32} {s0 : Int32} {H : Heap} {locs : List Loc} {ls : Array Slot} (h : f_N_run_17 post σ x1 s0) (hw : CX D vcl (tyl cA) (wC cA a σ) (XC ad) A s H locs) (hl : lv_has ls 2 [(0, .ref (a 0)), (1, .int x1)]) : W p l e r_N_run s m args below meth c H locs 0 0 Q (F0 m 17 ls [.int s0]) := by
  have hx := fx.1
  have hb := fx.2.1
  unfold f_N_run_17 at h
  refine rsT (pc := 17) hw (rnTS (pc := 17) fx (c_N_require hfl h _) (pw_blind xtC) (fun U hU hW => ⟨rfl, cx_pre xtC hw hU hW⟩) cw_N_35 rfl ⟨Nat.le_of_ble_eq_true rfl, Nat.le_of_ble_eq_true rfl⟩ hl.1 (Nat.le_of_ble_eq_true rfl) d_N_run_17 ⟨Nat.le_of_ble_eq_true rfl, Nat.le_of_ble_eq_true rfl⟩) (fun _ σ_1 H locs hw h => ?_) (fun x9 kd9 σ9 H locs hw h hE hz => HR.2 (Nat.le_of_ble_eq_true rfl) (Nat.le_of_ble_eq_true rfl) hw h hE hz)
  refine W.eq (g2 := F0 m 20 ls []) rfl ?_
  refine lv_aload_n (pc := 20) hx hb d_N_run_20 rfl (lv_at hl 0 rfl) ?_
  refine gC_0_machine (pc := 21) fx hw kw_276 d_N_run_21 ?_
  refine lv_iload_n (pc := 24) hx hb d_N_run_24 rfl (lv_at hl 1 rfl) ?_
  refine rsI (pc := 25) hw (rnV (pc := 25) xtC fx hw (c_M_runUpTo h _) cw_N_77 (rcC_1 hw) rfl ⟨Nat.le_of_ble_eq_true rfl, Nat.le_of_ble_eq_true rfl⟩ hl.1 (Nat.le_of_ble_eq_true rfl) d_N_run_25 ⟨Nat.le_of_ble_eq_true rfl, Nat.le_of_ble_eq_true rfl⟩) (fun r_3 σ_2 H locs hw h => ?_)
  exact HR.1 (Nat.le_of_ble_eq_true rfl) (Nat.le_of_ble_eq_true rfl) d_N_run_28 h hw
set_option maxHeartbeats 4000000 in
set_option maxRecDepth 100000 in
theorem e_N_run (hfl : l.flags = flags0) (fx : CallFix p m c b_N_run 2 s args GW RNN) {post : (Int32 → SS → Prop) × (Nat → SS → Prop)} (HR : RetTI p l e r_N_run s m args below meth c Q D vcl (tyl cA) (wC cA a) (XC ad) A b_N_run 1 6 post.1 ∧ RetX p l e r_N_run s m args below meth c Q D vcl (tyl cA) (wC cA a) (XC ad) A 1 6 post.2) {σ : SS} {x1 : Int32} {H : Heap} {locs : List Loc} {ls : Array Slot} (h : f_N_run post σ x1) (hw : CX D vcl (tyl cA) (wC cA a σ) (XC ad) A s H locs) (hl : lv_has ls 2 [(0, .ref (a 0)), (1, .int x1)]) : W p l e r_N_run s m args below meth c H locs 0 0 Q (F0 m 0 ls []) := by
  have hx := fx.1
  have hb := fx.2.1
  unfold f_N_run at h
  refine lv_iload_n (pc := 0) hx hb d_N_run_0 rfl (lv_at hl 1 rfl) ?_
  refine lv_iconst (pc := 1) (v := 1) hx hb d_N_run_1 (by decide) ?_
  refine lv_icmp_lt (pc := 2) (tgt := 16) hx hb d_N_run_2 (by decide) (fun c9 => ?_) (fun c9 => ?_)
  · replace h := h.1 c9
    refine lv_iconst (pc := 16) (v := 0) hx hb d_N_run_16 (by decide) ?_
    exact c_N_run_17 hfl fx HR h hw (lv_sub hl [0, 1] rfl)
  · replace h := h.2 c9
    refine lv_iload_n (pc := 5) hx hb d_N_run_5 rfl (lv_at hl 1 rfl) ?_
    refine lv_sipush (pc := 6) (v := 5000) hx hb d_N_run_6 (by decide) ?_
    refine lv_icmp_gt (pc := 9) (tgt := 16) hx hb d_N_run_9 (by decide) (fun c9 => ?_) (fun c9 => ?_)
    · replace h := h.1 c9
      refine lv_iconst (pc := 16) (v := 0) hx hb d_N_run_16 (by decide) ?_
      exact c_N_run_17 hfl fx HR h hw (lv_sub hl [0, 1] rfl)
    · replace h := h.2 c9
      refine lv_iconst (pc := 12) (v := 1) hx hb d_N_run_12 (by decide) ?_
      refine lv_goto (pc := 13) (tgt := 17) hx hb d_N_run_13 (by decide) ?_
      exact c_N_run_17 hfl fx HR h hw (lv_sub hl [0, 1] rfl)
end
theorem c_N_run {l : Launch} {D : va_G} {cA : Nat → ClassId} {a : Nat → Nat} {ad : Nat → Nat → Nat} (hfl : l.flags = flags0) {σ : SS} {post : (Int32 → SS → Prop) × (Nat → SS → Prop)} {x1 : Int32} (h : f_N_run post σ x1) : mT (fun r => some (.int r)) l y_N_run b_N_run 2 (some .int) 7 1 6 160 D vcl (tyl cA) (wC cA a) (XC ad) σ [.ref (a 0), .int x1] post.1 post.2 := met_TI (by decide) (Nat.le_of_ble_eq_true rfl) (fun p e s m args below meth c A Q fx HR HX H ls hw hl => e_N_run hfl fx ⟨HR, HX⟩ h hw hl)
abbrev r_N_feed : Room := { frames := 7, cells := 1, slots := 6, locals := 101 }
def f_N_feed_28_611 (post : (Int32 → SS → Prop) × (Nat → SS → Prop)) (σ : SS) (x1 : Int32) (x2 : Int32) (x3 : Int32) (x4 : Int32) (x5 : Int32) (s0 : Int32) : Prop := f_N_requireRoom (fun _ σ_1 => f_I_appendFour (fun σ_2 => f_I_appendFour (fun σ_4 => f_I_appendFour (fun σ_6 => f_I_appendFour (fun σ_8 => f_I_appendFour (fun σ_10 => post.1 (σ_10.1 34) σ_10) σ_8 x5) σ_6 x4) σ_4 x3) σ_2 x2) σ_1 x1) post.2 σ s0
def f_N_feed (post : (Int32 → SS → Prop) × (Nat → SS → Prop)) (σ : SS) (x1 : Int32) (x2 : Int32) (x3 : Int32) (x4 : Int32) (x5 : Int32) : Prop := br (6000 < ((σ.1 34) + 20)) (f_N_feed_28_611 post σ x1 x2 x3 x4 x5 0) (f_N_feed_28_611 post σ x1 x2 x3 x4 x5 1)
section
variable {p : Program} {l : Launch} {e : Env} {s : State} {m : MethodId} {args : Array Value} {below : List Frame} {meth : Method} {c : Code} {Q : State → Prop} {D : va_G} {cA : Nat → ClassId} {a : Nat → Nat} {ad : Nat → Nat → Nat} {A : Nat → Prop}
set_option maxHeartbeats 4000000 in
set_option maxRecDepth 100000 in
theorem c_N_feed_28_611 (hfl : l.flags = flags0) (fx : CallFix p m c b_N_feed 7 s args GW RNN) {post : (Int32 → SS → Prop) × (Nat → SS → Prop)} (HR : RetTI p l e r_N_feed s m args below meth c Q D vcl (tyl cA) (wC cA a) (XC ad) A b_N_feed 1 6 post.1 ∧ RetX p l e r_N_feed s m args below meth c Q D vcl (tyl cA) (wC cA a) (XC ad) A 1 6 post.2) {σ : SS} {x1 : Int32} {x2 : Int32} {x3 : Int32} {x4 : Int32} {x5 : Int32} {s0 : Int32} {H : Heap} {locs : List Loc} {ls : Array Slot} (h : f_N_feed_28_611 post σ x1 x2 x3 x4 x5 s0) (hw : CX D vcl (tyl cA) (wC cA a σ) (XC ad) A s H locs) (hl : lv_has ls 7 [(1, .int x1), (2, .int x2), (3, .int x3), (4, .int x4), (5, .int x5), (6, .ref (a 11))]) : W p l e r_N_feed s m args below meth c H locs 0 0 Q (F0 m 28 ls [.int s0]) := by
  have hx := fx.1
  have hb := fx.2.1
  unfold f_N_feed_28_611 at h
  refine rsT (pc := 28) hw (rnTS (pc := 28) fx (c_N_requireRoom hfl h _) (pw_blind xtC) (fun U hU hW => ⟨rfl, cx_pre xtC hw hU hW⟩) cw_N_70 rfl ⟨Nat.le_of_ble_eq_true rfl, Nat.le_of_ble_eq_true rfl⟩ hl.1 (Nat.le_of_ble_eq_true rfl) d_N_feed_28 ⟨Nat.le_of_ble_eq_true rfl, Nat.le_of_ble_eq_true rfl⟩) (fun _ σ_1 H locs hw h => ?_) (fun x9 kd9 σ9 H locs hw h hE hz => HR.2 (Nat.le_of_ble_eq_true rfl) (Nat.le_of_ble_eq_true rfl) hw h hE hz)
  refine W.eq (g2 := F0 m 31 ls []) rfl ?_
  refine lv_aload (pc := 31) hx hb d_N_feed_31 (lv_at hl 5 rfl) ?_
  refine lv_iload_n (pc := 33) hx hb d_N_feed_33 rfl (lv_at hl 0 rfl) ?_
  refine rsV (pc := 34) hw (rnV (pc := 34) xtC fx hw (c_I_appendFour h _) cw_N_110 (rcC_11 hw) rfl ⟨Nat.le_of_ble_eq_true rfl, Nat.le_of_ble_eq_true rfl⟩ hl.1 (Nat.le_of_ble_eq_true rfl) d_N_feed_34 ⟨Nat.le_of_ble_eq_true rfl, Nat.le_of_ble_eq_true rfl⟩) (fun σ_2 H locs hw h => ?_)
  refine lv_aload (pc := 37) hx hb d_N_feed_37 (lv_at hl 5 rfl) ?_
  refine lv_iload_n (pc := 39) hx hb d_N_feed_39 rfl (lv_at hl 1 rfl) ?_
  refine rsV (pc := 40) hw (rnV (pc := 40) xtC fx hw (c_I_appendFour h _) cw_N_110 (rcC_11 hw) rfl ⟨Nat.le_of_ble_eq_true rfl, Nat.le_of_ble_eq_true rfl⟩ hl.1 (Nat.le_of_ble_eq_true rfl) d_N_feed_40 ⟨Nat.le_of_ble_eq_true rfl, Nat.le_of_ble_eq_true rfl⟩) (fun σ_4 H locs hw h => ?_)
  refine lv_aload (pc := 43) hx hb d_N_feed_43 (lv_at hl 5 rfl) ?_
  refine lv_iload_n (pc := 45) hx hb d_N_feed_45 rfl (lv_at hl 2 rfl) ?_
  refine rsV (pc := 46) hw (rnV (pc := 46) xtC fx hw (c_I_appendFour h _) cw_N_110 (rcC_11 hw) rfl ⟨Nat.le_of_ble_eq_true rfl, Nat.le_of_ble_eq_true rfl⟩ hl.1 (Nat.le_of_ble_eq_true rfl) d_N_feed_46 ⟨Nat.le_of_ble_eq_true rfl, Nat.le_of_ble_eq_true rfl⟩) (fun σ_6 H locs hw h => ?_)
  refine lv_aload (pc := 49) hx hb d_N_feed_49 (lv_at hl 5 rfl) ?_
  refine lv_iload (pc := 51) hx hb d_N_feed_51 (lv_at hl 3 rfl) ?_
  refine rsV (pc := 53) hw (rnV (pc := 53) xtC fx hw (c_I_appendFour h _) cw_N_110 (rcC_11 hw) rfl ⟨Nat.le_of_ble_eq_true rfl, Nat.le_of_ble_eq_true rfl⟩ hl.1 (Nat.le_of_ble_eq_true rfl) d_N_feed_53 ⟨Nat.le_of_ble_eq_true rfl, Nat.le_of_ble_eq_true rfl⟩) (fun σ_8 H locs hw h => ?_)
  refine lv_aload (pc := 56) hx hb d_N_feed_56 (lv_at hl 5 rfl) ?_
  refine lv_iload (pc := 58) hx hb d_N_feed_58 (lv_at hl 4 rfl) ?_
  refine rsV (pc := 60) hw (rnV (pc := 60) xtC fx hw (c_I_appendFour h _) cw_N_110 (rcC_11 hw) rfl ⟨Nat.le_of_ble_eq_true rfl, Nat.le_of_ble_eq_true rfl⟩ hl.1 (Nat.le_of_ble_eq_true rfl) d_N_feed_60 ⟨Nat.le_of_ble_eq_true rfl, Nat.le_of_ble_eq_true rfl⟩) (fun σ_10 H locs hw h => ?_)
  refine lv_aload (pc := 63) hx hb d_N_feed_63 (lv_at hl 5 rfl) ?_
  refine gC_11_length (pc := 65) fx hw kw_183 d_N_feed_65 ?_
  exact HR.1 (Nat.le_of_ble_eq_true rfl) (Nat.le_of_ble_eq_true rfl) d_N_feed_68 h hw
set_option maxHeartbeats 4000000 in
set_option maxRecDepth 100000 in
theorem e_N_feed (hfl : l.flags = flags0) (fx : CallFix p m c b_N_feed 7 s args GW RNN) {post : (Int32 → SS → Prop) × (Nat → SS → Prop)} (HR : RetTI p l e r_N_feed s m args below meth c Q D vcl (tyl cA) (wC cA a) (XC ad) A b_N_feed 1 6 post.1 ∧ RetX p l e r_N_feed s m args below meth c Q D vcl (tyl cA) (wC cA a) (XC ad) A 1 6 post.2) {σ : SS} {x1 : Int32} {x2 : Int32} {x3 : Int32} {x4 : Int32} {x5 : Int32} {H : Heap} {locs : List Loc} {ls : Array Slot} (h : f_N_feed post σ x1 x2 x3 x4 x5) (hw : CX D vcl (tyl cA) (wC cA a σ) (XC ad) A s H locs) (hl : lv_has ls 7 [(0, .ref (a 0)), (1, .int x1), (2, .int x2), (3, .int x3), (4, .int x4), (5, .int x5)]) : W p l e r_N_feed s m args below meth c H locs 0 0 Q (F0 m 0 ls []) := by
  have hx := fx.1
  have hb := fx.2.1
  unfold f_N_feed at h
  refine lv_aload_n (pc := 0) hx hb d_N_feed_0 rfl (lv_at hl 0 rfl) ?_
  refine gC_0_assembler (pc := 1) fx hw kw_277 d_N_feed_1 ?_
  refine gC_10_items (pc := 4) fx hw kw_217 d_N_feed_4 ?_
  refine lv_astore (pc := 7) (lv' := [(6, .ref (a 11)), (0, .ref (a 0)), (1, .int x1), (2, .int x2), (3, .int x3), (4, .int x4), (5, .int x5)]) hx hb d_N_feed_7 hl (by decide) rfl (fun ls hl => ?_)
  refine lv_aload (pc := 9) hx hb d_N_feed_9 (lv_at hl 0 rfl) ?_
  refine gC_11_length (pc := 11) fx hw kw_183 d_N_feed_11 ?_
  refine lv_bipush (pc := 14) (v := 20) hx hb d_N_feed_14 (by decide) ?_
  refine lv_iadd (pc := 16) hx hb d_N_feed_16 ?_
  refine lv_sipush (pc := 17) (v := 6000) hx hb d_N_feed_17 (by decide) ?_
  refine lv_icmp_gt (pc := 20) (tgt := 27) hx hb d_N_feed_20 (by decide) (fun c9 => ?_) (fun c9 => ?_)
  · replace h := h.1 c9
    refine lv_iconst (pc := 27) (v := 0) hx hb d_N_feed_27 (by decide) ?_
    exact c_N_feed_28_611 hfl fx HR h hw (lv_sub hl [2, 3, 4, 5, 6, 0] rfl)
  · replace h := h.2 c9
    refine lv_iconst (pc := 23) (v := 1) hx hb d_N_feed_23 (by decide) ?_
    refine lv_goto (pc := 24) (tgt := 28) hx hb d_N_feed_24 (by decide) ?_
    exact c_N_feed_28_611 hfl fx HR h hw (lv_sub hl [2, 3, 4, 5, 6, 0] rfl)
end
theorem c_N_feed {l : Launch} {D : va_G} {cA : Nat → ClassId} {a : Nat → Nat} {ad : Nat → Nat → Nat} (hfl : l.flags = flags0) {σ : SS} {post : (Int32 → SS → Prop) × (Nat → SS → Prop)} {x1 : Int32} {x2 : Int32} {x3 : Int32} {x4 : Int32} {x5 : Int32} (h : f_N_feed post σ x1 x2 x3 x4 x5) : mT (fun r => some (.int r)) l y_N_feed b_N_feed 7 (some .int) 7 1 6 101 D vcl (tyl cA) (wC cA a) (XC ad) σ [.ref (a 0), .int x1, .int x2, .int x3, .int x4, .int x5] post.1 post.2 := met_TI (by decide) (Nat.le_of_ble_eq_true rfl) (fun p e s m args below meth c A Q fx HR HX H ls hw hl => e_N_feed hfl fx ⟨HR, HX⟩ h hw hl)
abbrev r_N_end : Room := { frames := 7, cells := 1, slots := 6, locals := 101 }
def f_N_end (post : (Int32 → SS → Prop) × (Nat → SS → Prop)) (σ : SS) (x1 : Int32) : Prop := f_N_isWithin (fun r_2 σ_1 => f_N_require (fun _ σ_3 => nm (sI σ_3 34 x1) fun σ_4 => post.1 0 σ_4) post.2 σ_1 r_2) σ x1 (σ.1 34)
section
variable {p : Program} {l : Launch} {e : Env} {s : State} {m : MethodId} {args : Array Value} {below : List Frame} {meth : Method} {c : Code} {Q : State → Prop} {D : va_G} {cA : Nat → ClassId} {a : Nat → Nat} {ad : Nat → Nat → Nat} {A : Nat → Prop}
set_option maxHeartbeats 4000000 in
set_option maxRecDepth 100000 in
theorem e_N_end (hfl : l.flags = flags0) (fx : CallFix p m c b_N_end 2 s args GW RNN) {post : (Int32 → SS → Prop) × (Nat → SS → Prop)} (HR : RetTV p l e r_N_end s m args below meth c Q D vcl (tyl cA) (wC cA a) (XC ad) A b_N_end 1 6 post.1 ∧ RetX p l e r_N_end s m args below meth c Q D vcl (tyl cA) (wC cA a) (XC ad) A 1 6 post.2) {σ : SS} {x1 : Int32} {H : Heap} {locs : List Loc} {ls : Array Slot} (h : f_N_end post σ x1) (hw : CX D vcl (tyl cA) (wC cA a σ) (XC ad) A s H locs) (hl : lv_has ls 2 [(0, .ref (a 0)), (1, .int x1)]) : W p l e r_N_end s m args below meth c H locs 0 0 Q (F0 m 0 ls []) := by
  have hx := fx.1
  have hb := fx.2.1
  unfold f_N_end at h
  refine lv_iload_n (pc := 0) hx hb d_N_end_0 rfl (lv_at hl 1 rfl) ?_
  refine lv_aload_n (pc := 1) hx hb d_N_end_1 rfl (lv_at hl 0 rfl) ?_
  refine gC_0_assembler (pc := 2) fx hw kw_277 d_N_end_2 ?_
  refine gC_10_items (pc := 5) fx hw kw_217 d_N_end_5 ?_
  refine gC_11_length (pc := 8) fx hw kw_183 d_N_end_8 ?_
  refine rsI (pc := 11) hw (rnS (pc := 11) xtC fx hw (c_N_isWithin h _) cw_N_30 rfl ⟨Nat.le_of_ble_eq_true rfl, Nat.le_of_ble_eq_true rfl⟩ hl.1 (Nat.le_of_ble_eq_true rfl) d_N_end_11 ⟨Nat.le_of_ble_eq_true rfl, Nat.le_of_ble_eq_true rfl⟩) (fun r_2 σ_1 H locs hw h => ?_)
  have zr_2 := h.1
  replace h := h.2
  refine rsT (pc := 14) hw (rnTS (pc := 14) fx (c_N_require hfl h _) (pw_blind xtC) (fun U hU hW => ⟨rfl, cx_pre xtC hw hU hW⟩) cw_N_35 rfl ⟨Nat.le_of_ble_eq_true rfl, Nat.le_of_ble_eq_true rfl⟩ hl.1 (Nat.le_of_ble_eq_true rfl) d_N_end_14 ⟨Nat.le_of_ble_eq_true rfl, Nat.le_of_ble_eq_true rfl⟩) (fun _ σ_3 H locs hw h => ?_) (fun x9 kd9 σ9 H locs hw h hE hz => HR.2 (Nat.le_of_ble_eq_true rfl) (Nat.le_of_ble_eq_true rfl) hw h hE hz)
  refine W.eq (g2 := F0 m 17 ls []) rfl ?_
  refine lv_aload_n (pc := 17) hx hb d_N_end_17 rfl (lv_at hl 0 rfl) ?_
  refine gC_0_assembler (pc := 18) fx hw kw_277 d_N_end_18 ?_
  refine gC_10_items (pc := 21) fx hw kw_217 d_N_end_21 ?_
  refine lv_iload_n (pc := 24) hx hb d_N_end_24 rfl (lv_at hl 1 rfl) ?_
  refine pC_11_length (pc := 25) fx hw kw_183 d_N_end_25 (fun σ_4 e9 H locs hw => ?_)
  replace h := nm_u h e9
  clear e9
  exact HR.1 (Nat.le_of_ble_eq_true rfl) (Nat.le_of_ble_eq_true rfl) d_N_end_28 h hw
end
theorem c_N_end {l : Launch} {D : va_G} {cA : Nat → ClassId} {a : Nat → Nat} {ad : Nat → Nat → Nat} (hfl : l.flags = flags0) {σ : SS} {post : (Int32 → SS → Prop) × (Nat → SS → Prop)} {x1 : Int32} (h : f_N_end post σ x1) : mT (fun _ => none) l y_N_end b_N_end 2 none 7 1 6 101 D vcl (tyl cA) (wC cA a) (XC ad) σ [.ref (a 0), .int x1] post.1 post.2 := met_TV (by decide) (Nat.le_of_ble_eq_true rfl) (fun p e s m args below meth c A Q fx HR HX H ls hw hl => e_N_end hfl fx ⟨HR, HX⟩ h hw hl)
abbrev r_N_fault : Room := { frames := 7, cells := 1, slots := 6, locals := 101 }
def f_N_fault (post : (Int32 → SS → Prop) × (Nat → SS → Prop)) (σ : SS) (x1 : Int32) : Prop := f_N_isWithin (fun r_2 σ_1 => f_N_require (fun _ σ_3 => br (x1 = 0) (post.1 (σ_3.1 32) σ_3) (post.1 (σ_3.1 33) σ_3)) post.2 σ_1 r_2) σ x1 1
section
variable {p : Program} {l : Launch} {e : Env} {s : State} {m : MethodId} {args : Array Value} {below : List Frame} {meth : Method} {c : Code} {Q : State → Prop} {D : va_G} {cA : Nat → ClassId} {a : Nat → Nat} {ad : Nat → Nat → Nat} {A : Nat → Prop}
set_option maxHeartbeats 4000000 in
set_option maxRecDepth 100000 in
theorem e_N_fault (hfl : l.flags = flags0) (fx : CallFix p m c b_N_fault 2 s args GW RNN) {post : (Int32 → SS → Prop) × (Nat → SS → Prop)} (HR : RetTI p l e r_N_fault s m args below meth c Q D vcl (tyl cA) (wC cA a) (XC ad) A b_N_fault 1 6 post.1 ∧ RetX p l e r_N_fault s m args below meth c Q D vcl (tyl cA) (wC cA a) (XC ad) A 1 6 post.2) {σ : SS} {x1 : Int32} {H : Heap} {locs : List Loc} {ls : Array Slot} (h : f_N_fault post σ x1) (hw : CX D vcl (tyl cA) (wC cA a σ) (XC ad) A s H locs) (hl : lv_has ls 2 [(0, .ref (a 0)), (1, .int x1)]) : W p l e r_N_fault s m args below meth c H locs 0 0 Q (F0 m 0 ls []) := by
  have hx := fx.1
  have hb := fx.2.1
  unfold f_N_fault at h
  refine lv_iload_n (pc := 0) hx hb d_N_fault_0 rfl (lv_at hl 1 rfl) ?_
  refine lv_iconst (pc := 1) (v := 1) hx hb d_N_fault_1 (by decide) ?_
  refine rsI (pc := 2) hw (rnS (pc := 2) xtC fx hw (c_N_isWithin h _) cw_N_30 rfl ⟨Nat.le_of_ble_eq_true rfl, Nat.le_of_ble_eq_true rfl⟩ hl.1 (Nat.le_of_ble_eq_true rfl) d_N_fault_2 ⟨Nat.le_of_ble_eq_true rfl, Nat.le_of_ble_eq_true rfl⟩) (fun r_2 σ_1 H locs hw h => ?_)
  have zr_2 := h.1
  replace h := h.2
  refine rsT (pc := 5) hw (rnTS (pc := 5) fx (c_N_require hfl h _) (pw_blind xtC) (fun U hU hW => ⟨rfl, cx_pre xtC hw hU hW⟩) cw_N_35 rfl ⟨Nat.le_of_ble_eq_true rfl, Nat.le_of_ble_eq_true rfl⟩ hl.1 (Nat.le_of_ble_eq_true rfl) d_N_fault_5 ⟨Nat.le_of_ble_eq_true rfl, Nat.le_of_ble_eq_true rfl⟩) (fun _ σ_3 H locs hw h => ?_) (fun x9 kd9 σ9 H locs hw h hE hz => HR.2 (Nat.le_of_ble_eq_true rfl) (Nat.le_of_ble_eq_true rfl) hw h hE hz)
  refine W.eq (g2 := F0 m 8 ls []) rfl ?_
  refine lv_iload_n (pc := 8) hx hb d_N_fault_8 rfl (lv_at hl 1 rfl) ?_
  refine lv_if_ne (pc := 9) (tgt := 22) hx hb d_N_fault_9 (by decide) (fun c9 => ?_) (fun c9 => ?_)
  · replace h := h.2 c9
    refine lv_aload_n (pc := 22) hx hb d_N_fault_22 rfl (lv_at hl 0 rfl) ?_
    refine gC_0_assembler (pc := 23) fx hw kw_277 d_N_fault_23 ?_
    refine gC_10_faultLine (pc := 26) fx hw kw_233 d_N_fault_26 ?_
    exact HR.1 (Nat.le_of_ble_eq_true rfl) (Nat.le_of_ble_eq_true rfl) d_N_fault_29 h hw
  · replace h := h.1 c9
    refine lv_aload_n (pc := 12) hx hb d_N_fault_12 rfl (lv_at hl 0 rfl) ?_
    refine gC_0_assembler (pc := 13) fx hw kw_277 d_N_fault_13 ?_
    refine gC_10_faultNumber (pc := 16) fx hw kw_231 d_N_fault_16 ?_
    refine lv_goto (pc := 19) (tgt := 29) hx hb d_N_fault_19 (by decide) ?_
    exact HR.1 (Nat.le_of_ble_eq_true rfl) (Nat.le_of_ble_eq_true rfl) d_N_fault_29 h hw
end
theorem c_N_fault {l : Launch} {D : va_G} {cA : Nat → ClassId} {a : Nat → Nat} {ad : Nat → Nat → Nat} (hfl : l.flags = flags0) {σ : SS} {post : (Int32 → SS → Prop) × (Nat → SS → Prop)} {x1 : Int32} (h : f_N_fault post σ x1) : mT (fun r => some (.int r)) l y_N_fault b_N_fault 2 (some .int) 7 1 6 101 D vcl (tyl cA) (wC cA a) (XC ad) σ [.ref (a 0), .int x1] post.1 post.2 := met_TI (by decide) (Nat.le_of_ble_eq_true rfl) (fun p e s m args below meth c A Q fx HR HX H ls hw hl => e_N_fault hfl fx ⟨HR, HX⟩ h hw hl)
abbrev r_N_tell : Room := { frames := 7, cells := 1, slots := 6, locals := 151 }
def f_N_tell (post : (Int32 → SS → Prop) × (Nat → SS → Prop)) (σ : SS) (x1 : Int32) : Prop := f_N_isWithin (fun r_2 σ_1 => f_N_require (fun _ σ_3 => f_M_load (fun r_5 σ_4 => f_T_describe (fun r_7 σ_6 => post.1 r_7 σ_6) σ_4 r_5) σ_3 x1) post.2 σ_1 r_2) σ x1 32767
section
variable {p : Program} {l : Launch} {e : Env} {s : State} {m : MethodId} {args : Array Value} {below : List Frame} {meth : Method} {c : Code} {Q : State → Prop} {D : va_G} {cA : Nat → ClassId} {a : Nat → Nat} {ad : Nat → Nat → Nat} {A : Nat → Prop}
set_option maxHeartbeats 4000000 in
set_option maxRecDepth 100000 in
theorem e_N_tell (hfl : l.flags = flags0) (fx : CallFix p m c b_N_tell 2 s args GW RNN) {post : (Int32 → SS → Prop) × (Nat → SS → Prop)} (HR : RetTI p l e r_N_tell s m args below meth c Q D vcl (tyl cA) (wC cA a) (XC ad) A b_N_tell 1 6 post.1 ∧ RetX p l e r_N_tell s m args below meth c Q D vcl (tyl cA) (wC cA a) (XC ad) A 1 6 post.2) {σ : SS} {x1 : Int32} {H : Heap} {locs : List Loc} {ls : Array Slot} (h : f_N_tell post σ x1) (hw : CX D vcl (tyl cA) (wC cA a σ) (XC ad) A s H locs) (hl : lv_has ls 2 [(0, .ref (a 0)), (1, .int x1)]) : W p l e r_N_tell s m args below meth c H locs 0 0 Q (F0 m 0 ls []) := by
  have hx := fx.1
  have hb := fx.2.1
  unfold f_N_tell at h
  refine lv_iload_n (pc := 0) hx hb d_N_tell_0 rfl (lv_at hl 1 rfl) ?_
  refine lv_sipush (pc := 1) (v := 32767) hx hb d_N_tell_1 (by decide) ?_
  refine rsI (pc := 4) hw (rnS (pc := 4) xtC fx hw (c_N_isWithin h _) cw_N_30 rfl ⟨Nat.le_of_ble_eq_true rfl, Nat.le_of_ble_eq_true rfl⟩ hl.1 (Nat.le_of_ble_eq_true rfl) d_N_tell_4 ⟨Nat.le_of_ble_eq_true rfl, Nat.le_of_ble_eq_true rfl⟩) (fun r_2 σ_1 H locs hw h => ?_)
  have zr_2 := h.1
  replace h := h.2
  refine rsT (pc := 7) hw (rnTS (pc := 7) fx (c_N_require hfl h _) (pw_blind xtC) (fun U hU hW => ⟨rfl, cx_pre xtC hw hU hW⟩) cw_N_35 rfl ⟨Nat.le_of_ble_eq_true rfl, Nat.le_of_ble_eq_true rfl⟩ hl.1 (Nat.le_of_ble_eq_true rfl) d_N_tell_7 ⟨Nat.le_of_ble_eq_true rfl, Nat.le_of_ble_eq_true rfl⟩) (fun _ σ_3 H locs hw h => ?_) (fun x9 kd9 σ9 H locs hw h hE hz => HR.2 (Nat.le_of_ble_eq_true rfl) (Nat.le_of_ble_eq_true rfl) hw h hE hz)
  refine W.eq (g2 := F0 m 10 ls []) rfl ?_
  refine lv_aload_n (pc := 10) hx hb d_N_tell_10 rfl (lv_at hl 0 rfl) ?_
  refine gC_0_teller (pc := 11) fx hw kw_278 d_N_tell_11 ?_
  refine lv_aload_n (pc := 14) hx hb d_N_tell_14 rfl (lv_at hl 0 rfl) ?_
  refine gC_0_machine (pc := 15) fx hw kw_276 d_N_tell_15 ?_
  refine lv_iload_n (pc := 18) hx hb d_N_tell_18 rfl (lv_at hl 1 rfl) ?_
  refine rsI (pc := 19) hw (rnV (pc := 19) xtC fx hw (c_M_load h _) cw_N_39 (rcC_1 hw) rfl ⟨Nat.le_of_ble_eq_true rfl, Nat.le_of_ble_eq_true rfl⟩ hl.1 (Nat.le_of_ble_eq_true rfl) d_N_tell_19 ⟨Nat.le_of_ble_eq_true rfl, Nat.le_of_ble_eq_true rfl⟩) (fun r_5 σ_4 H locs hw h => ?_)
  refine rsI (pc := 22) hw (rnV (pc := 22) xtC fx hw (c_T_describe h _) cw_N_141 (rcC_23 hw) rfl ⟨Nat.le_of_ble_eq_true rfl, Nat.le_of_ble_eq_true rfl⟩ hl.1 (Nat.le_of_ble_eq_true rfl) d_N_tell_22 ⟨Nat.le_of_ble_eq_true rfl, Nat.le_of_ble_eq_true rfl⟩) (fun r_7 σ_6 H locs hw h => ?_)
  exact HR.1 (Nat.le_of_ble_eq_true rfl) (Nat.le_of_ble_eq_true rfl) d_N_tell_25 h hw
end
theorem c_N_tell {l : Launch} {D : va_G} {cA : Nat → ClassId} {a : Nat → Nat} {ad : Nat → Nat → Nat} (hfl : l.flags = flags0) {σ : SS} {post : (Int32 → SS → Prop) × (Nat → SS → Prop)} {x1 : Int32} (h : f_N_tell post σ x1) : mT (fun r => some (.int r)) l y_N_tell b_N_tell 2 (some .int) 7 1 6 151 D vcl (tyl cA) (wC cA a) (XC ad) σ [.ref (a 0), .int x1] post.1 post.2 := met_TI (by decide) (Nat.le_of_ble_eq_true rfl) (fun p e s m args below meth c A Q fx HR HX H ls hw hl => e_N_tell hfl fx ⟨HR, HX⟩ h hw hl)
