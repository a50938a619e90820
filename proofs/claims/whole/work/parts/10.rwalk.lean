/-! the reference, walked: part 1 -/
abbrev r_R_thrown : Room := { frames := 0, cells := 0, slots := 0, locals := 0 }
def f_R_thrown (post : Int32 → SS → Prop) (σ : SS) : Prop := post (σ.1 29) σ
section
variable {p : Program} {l : Launch} {e : Env} {s : State} {m : MethodId} {args : Array Value} {below : List Frame} {meth : Method} {c : Code} {Q : State → Prop} {D : va_G} {cA : Nat → ClassId} {a : Nat → Nat} {X : (Nat → Prop) → State → Prop} {A : Nat → Prop}
set_option maxHeartbeats 4000000 in
set_option maxRecDepth 100000 in
theorem e_R_thrown (hX : XT X) (fx : CallFix p m c b_R_thrown 1 s args GW RNR) {post : Int32 → SS → Prop} (HR : RetI p l e r_R_thrown s m args below meth c Q D vcl (tyl cA) (wR cA a) X A b_R_thrown .int post) {σ : SS} {H : Heap} {locs : List Loc} {ls : Array Slot} (h : f_R_thrown post σ) (hw : CX D vcl (tyl cA) (wR cA a σ) X A s H locs) (hl : lv_has ls 1 [(0, .ref (a 0))]) : W p l e r_R_thrown s m args below meth c H locs 0 0 Q (F0 m 0 ls []) := by
  have hx := fx.1
  have hb := fx.2.1
  unfold f_R_thrown at h
  refine lv_aload_n (pc := 0) hx hb d_R_thrown_0 rfl (lv_at hl 0 rfl) ?_
  refine gR_0_thrown (pc := 1) fx hw kw_1115 d_R_thrown_1 ?_
  exact HR rfl d_R_thrown_4 h hw
end
theorem c_R_thrown {l : Launch} {D : va_G} {cA : Nat → ClassId} {a : Nat → Nat} {X : (Nat → Prop) → State → Prop} (hX : XT X) {σ : SS} {post : Int32 → SS → Prop} (h : f_R_thrown post σ) : mI l y_R_thrown b_R_thrown 1 (some .int) 0 0 D vcl (tyl cA) (wR cA a) X σ [.ref (a 0)] post := met_I (by decide) (Nat.le_of_ble_eq_true rfl) (fun p e s m args below meth c A Q fx HR H ls hw hl => e_R_thrown hX fx HR h hw hl)
abbrev r_R_fails : Room := { frames := 0, cells := 0, slots := 0, locals := 0 }
def f_R_fails_10 (post : Int32 → SS → Prop) (σ : SS) (x1 : Int32) (s0 : Int32) : Prop := nm (sI σ 29 s0) fun σ_1 => bz x1 ∧ post x1 σ_1
def f_R_fails (post : Int32 → SS → Prop) (σ : SS) (x1 : Int32) (x2 : Int32) : Prop := br (x1 = 0) (f_R_fails_10 post σ x1 0) (f_R_fails_10 post σ x1 x2)
section
variable {p : Program} {l : Launch} {e : Env} {s : State} {m : MethodId} {args : Array Value} {below : List Frame} {meth : Method} {c : Code} {Q : State → Prop} {D : va_G} {cA : Nat → ClassId} {a : Nat → Nat} {X : (Nat → Prop) → State → Prop} {A : Nat → Prop}
set_option maxHeartbeats 4000000 in
set_option maxRecDepth 100000 in
theorem c_R_fails_10 (hX : XT X) (fx : CallFix p m c b_R_fails 3 s args GW RNR) {post : Int32 → SS → Prop} (HR : RetI p l e r_R_fails s m args below meth c Q D vcl (tyl cA) (wR cA a) X A b_R_fails .boolean (fun r σ => bz r ∧ post r σ)) {σ : SS} {x1 : Int32} {s0 : Int32} {H : Heap} {locs : List Loc} {ls : Array Slot} (h : f_R_fails_10 post σ x1 s0) (hw : CX D vcl (tyl cA) (wR cA a σ) X A s H locs) (hl : lv_has ls 3 [(1, .int x1)]) : W p l e r_R_fails s m args below meth c H locs 0 0 Q (F0 m 10 ls [.int s0, .ref (a 0)]) := by
  have hx := fx.1
  have hb := fx.2.1
  unfold f_R_fails_10 at h
  refine pR_0_thrown (pc := 10) fx hw kw_1115 d_R_fails_10 (fun σ_1 e9 H locs hw => ?_)
  replace h := nm_u h e9
  clear e9
  refine lv_iload_n (pc := 13) hx hb d_R_fails_13 rfl (lv_at hl 0 rfl) ?_
  exact HR (bz_n h.1) d_R_fails_14 h hw
set_option maxHeartbeats 4000000 in
set_option maxRecDepth 100000 in
theorem e_R_fails (hX : XT X) (fx : CallFix p m c b_R_fails 3 s args GW RNR) {post : Int32 → SS → Prop} (HR : RetI p l e r_R_fails s m args below meth c Q D vcl (tyl cA) (wR cA a) X A b_R_fails .boolean (fun r σ => bz r ∧ post r σ)) {σ : SS} {x1 : Int32} {x2 : Int32} {H : Heap} {locs : List Loc} {ls : Array Slot} (h : f_R_fails post σ x1 x2) (hw : CX D vcl (tyl cA) (wR cA a σ) X A s H locs) (hl : lv_has ls 3 [(0, .ref (a 0)), (1, .int x1), (2, .int x2)]) : W p l e r_R_fails s m args below meth c H locs 0 0 Q (F0 m 0 ls []) := by
  have hx := fx.1
  have hb := fx.2.1
  unfold f_R_fails at h
  refine lv_aload_n (pc := 0) hx hb d_R_fails_0 rfl (lv_at hl 0 rfl) ?_
  refine lv_iload_n (pc := 1) hx hb d_R_fails_1 rfl (lv_at hl 1 rfl) ?_
  refine lv_if_eq (pc := 2) (tgt := 9) hx hb d_R_fails_2 (by decide) (fun c9 => ?_) (fun c9 => ?_)
  · replace h := h.1 c9
    refine lv_iconst (pc := 9) (v := 0) hx hb d_R_fails_9 (by decide) ?_
    exact c_R_fails_10 hX fx HR h hw (lv_sub hl [1] rfl)
  · replace h := h.2 c9
    refine lv_iload_n (pc := 5) hx hb d_R_fails_5 rfl (lv_at hl 2 rfl) ?_
    refine lv_goto (pc := 6) (tgt := 10) hx hb d_R_fails_6 (by decide) ?_
    exact c_R_fails_10 hX fx HR h hw (lv_sub hl [1] rfl)
end
theorem c_R_fails {l : Launch} {D : va_G} {cA : Nat → ClassId} {a : Nat → Nat} {X : (Nat → Prop) → State → Prop} (hX : XT X) {σ : SS} {post : Int32 → SS → Prop} {x1 : Int32} {x2 : Int32} (h : f_R_fails post σ x1 x2) : mI l y_R_fails b_R_fails 3 (some .boolean) 0 0 D vcl (tyl cA) (wR cA a) X σ [.ref (a 0), .int x1, .int x2] (fun r σ => bz r ∧ post r σ) := met_I (by decide) (Nat.le_of_ble_eq_true rfl) (fun p e s m args below meth c A Q fx HR H ls hw hl => e_R_fails hX fx HR h hw hl)
abbrev r_R_within : Room := { frames := 0, cells := 0, slots := 0, locals := 0 }
def f_R_within (post : Int32 → SS → Prop) (σ : SS) (x0 : Int32) (x1 : Int32) (x2 : Int32) : Prop := br (x0 < x1) (post 0 σ) (br (x2 < x0) (post 0 σ) (post 1 σ))
section
variable {p : Program} {l : Launch} {e : Env} {s : State} {m : MethodId} {args : Array Value} {below : List Frame} {meth : Method} {c : Code} {Q : State → Prop} {D : va_G} {cA : Nat → ClassId} {a : Nat → Nat} {X : (Nat → Prop) → State → Prop} {A : Nat → Prop}
set_option maxHeartbeats 4000000 in
set_option maxRecDepth 100000 in
theorem e_R_within (hX : XT X) (fx : CallFix p m c b_R_within 3 s args GW RNR) {post : Int32 → SS → Prop} (HR : RetI p l e r_R_within s m args below meth c Q D vcl (tyl cA) (wR cA a) X A b_R_within .boolean (fun r σ => bz r ∧ post r σ)) {σ : SS} {x0 : Int32} {x1 : Int32} {x2 : Int32} {H : Heap} {locs : List Loc} {ls : Array Slot} (h : f_R_within post σ x0 x1 x2) (hw : CX D vcl (tyl cA) (wR cA a σ) X A s H locs) (hl : lv_has ls 3 [(0, .int x0), (1, .int x1), (2, .int x2)]) : W p l e r_R_within s m args below meth c H locs 0 0 Q (F0 m 0 ls []) := by
  have hx := fx.1
  have hb := fx.2.1
  unfold f_R_within at h
  refine lv_iload_n (pc := 0) hx hb d_R_within_0 rfl (lv_at hl 0 rfl) ?_
  refine lv_iload_n (pc := 1) hx hb d_R_within_1 rfl (lv_at hl 1 rfl) ?_
  refine lv_icmp_lt (pc := 2) (tgt := 14) hx hb d_R_within_2 (by decide) (fun c9 => ?_) (fun c9 => ?_)
  · replace h := h.1 c9
    refine lv_iconst (pc := 14) (v := 0) hx hb d_R_within_14 (by decide) ?_
    exact HR (bz_n bz_0) d_R_within_15 ⟨bz_0, h⟩ hw
  · replace h := h.2 c9
    refine lv_iload_n (pc := 5) hx hb d_R_within_5 rfl (lv_at hl 0 rfl) ?_
    refine lv_iload_n (pc := 6) hx hb d_R_within_6 rfl (lv_at hl 2 rfl) ?_
    refine lv_icmp_gt (pc := 7) (tgt := 14) hx hb d_R_within_7 (by decide) (fun c9 => ?_) (fun c9 => ?_)
    · replace h := h.1 c9
      refine lv_iconst (pc := 14) (v := 0) hx hb d_R_within_14 (by decide) ?_
      exact HR (bz_n bz_0) d_R_within_15 ⟨bz_0, h⟩ hw
    · replace h := h.2 c9
      refine lv_iconst (pc := 10) (v := 1) hx hb d_R_within_10 (by decide) ?_
      refine lv_goto (pc := 11) (tgt := 15) hx hb d_R_within_11 (by decide) ?_
      exact HR (bz_n bz_1) d_R_within_15 ⟨bz_1, h⟩ hw
end
theorem c_R_within {l : Launch} {D : va_G} {cA : Nat → ClassId} {a : Nat → Nat} {X : (Nat → Prop) → State → Prop} (hX : XT X) {σ : SS} {post : Int32 → SS → Prop} {x0 : Int32} {x1 : Int32} {x2 : Int32} (h : f_R_within post σ x0 x1 x2) : mI l y_R_within b_R_within 3 (some .boolean) 0 0 D vcl (tyl cA) (wR cA a) X σ [.int x0, .int x1, .int x2] (fun r σ => bz r ∧ post r σ) := met_I (by decide) (Nat.le_of_ble_eq_true rfl) (fun p e s m args below meth c A Q fx HR H ls hw hl => e_R_within hX fx HR h hw hl)
abbrev r_R_put : Room := { frames := 1, cells := 0, slots := 0, locals := 22 }
def f_R_put_27 (post : Int32 → SS → Prop) (σ : SS) (x1 : Int32) (x2 : Int32) (s0 : Int32) : Prop := f_R_fails (fun r_2 σ_1 => br (r_2 = 0) (vp_in x1 32768 ∧ nm (σ_1.2.1 1 x1.toNatClampNeg) fun x3_3 => vp_in x1 32768 ∧ nm (sA σ_1 1 x1.toNatClampNeg x2) fun σ_4 => post x3_3 σ_4) (post 0 σ_1)) σ s0 1
def f_R_put (post : Int32 → SS → Prop) (σ : SS) (x1 : Int32) (x2 : Int32) : Prop := f_R_within (fun r_6 σ_5 => br (r_6 = 0) (f_R_put_27 post σ_5 x1 x2 1) (f_R_within (fun r_8 σ_7 => br (r_8 = 0) (f_R_put_27 post σ_7 x1 x2 1) (f_R_put_27 post σ_7 x1 x2 0)) σ_5 x2 0 65535)) σ x1 0 32767
section
variable {p : Program} {l : Launch} {e : Env} {s : State} {m : MethodId} {args : Array Value} {below : List Frame} {meth : Method} {c : Code} {Q : State → Prop} {D : va_G} {cA : Nat → ClassId} {a : Nat → Nat} {X : (Nat → Prop) → State → Prop} {A : Nat → Prop}
set_option maxHeartbeats 4000000 in
set_option maxRecDepth 100000 in
theorem c_R_put_27 (hX : XT X) (fx : CallFix p m c b_R_put 4 s args GW RNR) {post : Int32 → SS → Prop} (HR : RetI p l e r_R_put s m args below meth c Q D vcl (tyl cA) (wR cA a) X A b_R_put .int post) {σ : SS} {x1 : Int32} {x2 : Int32} {s0 : Int32} {H : Heap} {locs : List Loc} {ls : Array Slot} (h : f_R_put_27 post σ x1 x2 s0) (hw : CX D vcl (tyl cA) (wR cA a σ) X A s H locs) (hl : lv_has ls 4 [(0, .ref (a 0)), (1, .int x1), (2, .int x2)]) : W p l e r_R_put s m args below meth c H locs 0 0 Q (F0 m 27 ls [.int s0, .ref (a 0)]) := by
  have hx := fx.1
  have hb := fx.2.1
  unfold f_R_put_27 at h
  refine lv_iconst (pc := 27) (v := 1) hx hb d_R_put_27 (by decide) ?_
  refine cxI (pc := 28) hX fx hw (c_R_fails hX h) cw_R_77 (rcR_0 hw) rfl ⟨Nat.le_of_ble_eq_true rfl, Nat.le_of_ble_eq_true rfl⟩ hl.1 (Nat.le_of_ble_eq_true rfl) d_R_put_28 ⟨Nat.zero_le _, Nat.zero_le _⟩ (fun r_2 σ_1 H locs hw h => ?_)
  have zr_2 := h.1
  replace h := h.2
  refine lv_if_eq (pc := 31) (tgt := 36) hx hb d_R_put_31 (by decide) (fun c9 => ?_) (fun c9 => ?_)
  · replace h := h.1 c9
    refine lv_aload_n (pc := 36) hx hb d_R_put_36 rfl (lv_at hl 0 rfl) ?_
    refine gR_0_memory (pc := 37) fx hw kw_1067 d_R_put_37 ?_
    refine lv_iload_n (pc := 40) hx hb d_R_put_40 rfl (lv_at hl 1 rfl) ?_
    refine alR_1 (pc := 41) fx hw h.1 d_R_put_41 ?_
    replace h := h.2
    refine lv_topi (fun x3_3 e9 => ?_)
    replace h := nm_u h e9
    clear e9
    refine lv_istore_n (pc := 42) (lv' := [(3, .int x3_3), (0, .ref (a 0)), (1, .int x1), (2, .int x2)]) hx hb d_R_put_42 rfl hl (by decide) rfl (fun ls hl => ?_)
    refine lv_aload_n (pc := 43) hx hb d_R_put_43 rfl (lv_at hl 1 rfl) ?_
    refine gR_0_memory (pc := 44) fx hw kw_1067 d_R_put_44 ?_
    refine lv_iload_n (pc := 47) hx hb d_R_put_47 rfl (lv_at hl 2 rfl) ?_
    refine lv_iload_n (pc := 48) hx hb d_R_put_48 rfl (lv_at hl 3 rfl) ?_
    refine asR_1 (pc := 49) fx hw h.1 d_R_put_49 (fun σ_4 e9 H locs hw => ?_)
    replace h := nm_u h.2 e9
    clear e9
    refine lv_iload_n (pc := 50) hx hb d_R_put_50 rfl (lv_at hl 0 rfl) ?_
    exact HR rfl d_R_put_51 h hw
  · replace h := h.2 c9
    refine lv_iconst (pc := 34) (v := 0) hx hb d_R_put_34 (by decide) ?_
    exact HR rfl d_R_put_35 h hw
set_option maxHeartbeats 4000000 in
set_option maxRecDepth 100000 in
theorem e_R_put (hX : XT X) (fx : CallFix p m c b_R_put 4 s args GW RNR) {post : Int32 → SS → Prop} (HR : RetI p l e r_R_put s m args below meth c Q D vcl (tyl cA) (wR cA a) X A b_R_put .int post) {σ : SS} {x1 : Int32} {x2 : Int32} {H : Heap} {locs : List Loc} {ls : Array Slot} (h : f_R_put post σ x1 x2) (hw : CX D vcl (tyl cA) (wR cA a σ) X A s H locs) (hl : lv_has ls 4 [(0, .ref (a 0)), (1, .int x1), (2, .int x2)]) : W p l e r_R_put s m args below meth c H locs 0 0 Q (F0 m 0 ls []) := by
  have hx := fx.1
  have hb := fx.2.1
  unfold f_R_put at h
  refine lv_aload_n (pc := 0) hx hb d_R_put_0 rfl (lv_at hl 0 rfl) ?_
  refine lv_iload_n (pc := 1) hx hb d_R_put_1 rfl (lv_at hl 1 rfl) ?_
  refine lv_iconst (pc := 2) (v := 0) hx hb d_R_put_2 (by decide) ?_
  refine lv_sipush (pc := 3) (v := 32767) hx hb d_R_put_3 (by decide) ?_
  refine cxSI (pc := 6) hX fx hw (c_R_within hX h) cw_R_72 rfl ⟨Nat.le_of_ble_eq_true rfl, Nat.le_of_ble_eq_true rfl⟩ hl.1 (Nat.le_of_ble_eq_true rfl) d_R_put_6 ⟨Nat.zero_le _, Nat.zero_le _⟩ (fun r_6 σ_5 H locs hw h => ?_)
  have zr_6 := h.1
  replace h := h.2
  refine lv_if_eq (pc := 9) (tgt := 22) hx hb d_R_put_9 (by decide) (fun c9 => ?_) (fun c9 => ?_)
  · replace h := h.1 c9
    refine lv_iconst (pc := 22) (v := 1) hx hb d_R_put_22 (by decide) ?_
    refine lv_goto (pc := 23) (tgt := 27) hx hb d_R_put_23 (by decide) ?_
    exact c_R_put_27 hX fx HR h hw (lv_sub hl [0, 1, 2] rfl)
  · replace h := h.2 c9
    refine lv_iload_n (pc := 12) hx hb d_R_put_12 rfl (lv_at hl 2 rfl) ?_
    refine lv_iconst (pc := 13) (v := 0) hx hb d_R_put_13 (by decide) ?_
    refine lv_ldc (pc := 14) (v := 65535) hx hb fx.2.2.2.1 (fx.2.2.2.2 _ kw_1227) d_R_put_14 ?_
    refine cxSI (pc := 16) hX fx hw (c_R_within hX h) cw_R_72 rfl ⟨Nat.le_of_ble_eq_true rfl, Nat.le_of_ble_eq_true rfl⟩ hl.1 (Nat.le_of_ble_eq_true rfl) d_R_put_16 ⟨Nat.zero_le _, Nat.zero_le _⟩ (fun r_8 σ_7 H locs hw h => ?_)
    have zr_8 := h.1
    replace h := h.2
    refine lv_if_ne (pc := 19) (tgt := 26) hx hb d_R_put_19 (by decide) (fun c9 => ?_) (fun c9 => ?_)
    · replace h := h.2 c9
      refine lv_iconst (pc := 26) (v := 0) hx hb d_R_put_26 (by decide) ?_
      exact c_R_put_27 hX fx HR h hw (lv_sub hl [0, 1, 2] rfl)
    · replace h := h.1 c9
      refine lv_iconst (pc := 22) (v := 1) hx hb d_R_put_22 (by decide) ?_
      refine lv_goto (pc := 23) (tgt := 27) hx hb d_R_put_23 (by decide) ?_
      exact c_R_put_27 hX fx HR h hw (lv_sub hl [0, 1, 2] rfl)
end
theorem c_R_put {l : Launch} {D : va_G} {cA : Nat → ClassId} {a : Nat → Nat} {X : (Nat → Prop) → State → Prop} (hX : XT X) {σ : SS} {post : Int32 → SS → Prop} {x1 : Int32} {x2 : Int32} (h : f_R_put post σ x1 x2) : mI l y_R_put b_R_put 4 (some .int) 1 22 D vcl (tyl cA) (wR cA a) X σ [.ref (a 0), .int x1, .int x2] post := met_I (by decide) (Nat.le_of_ble_eq_true rfl) (fun p e s m args below meth c A Q fx HR H ls hw hl => e_R_put hX fx HR h hw hl)
abbrev r_R_word : Room := { frames := 1, cells := 0, slots := 0, locals := 22 }
def f_R_word_17 (post : Int32 → SS → Prop) (σ : SS) (x1 : Int32) (s0 : Int32) : Prop := f_R_fails (fun r_2 σ_1 => br (r_2 = 0) (vp_in x1 32768 ∧ post (σ_1.2.1 1 x1.toNatClampNeg) σ_1) (post 0 σ_1)) σ s0 1
def f_R_word (post : Int32 → SS → Prop) (σ : SS) (x1 : Int32) : Prop := f_R_within (fun r_4 σ_3 => br (r_4 = 0) (f_R_word_17 post σ_3 x1 1) (f_R_word_17 post σ_3 x1 0)) σ x1 0 32767
section
variable {p : Program} {l : Launch} {e : Env} {s : State} {m : MethodId} {args : Array Value} {below : List Frame} {meth : Method} {c : Code} {Q : State → Prop} {D : va_G} {cA : Nat → ClassId} {a : Nat → Nat} {X : (Nat → Prop) → State → Prop} {A : Nat → Prop}
set_option maxHeartbeats 4000000 in
set_option maxRecDepth 100000 in
theorem c_R_word_17 (hX : XT X) (fx : CallFix p m c b_R_word 2 s args GW RNR) {post : Int32 → SS → Prop} (HR : RetI p l e r_R_word s m args below meth c Q D vcl (tyl cA) (wR cA a) X A b_R_word .int post) {σ : SS} {x1 : Int32} {s0 : Int32} {H : Heap} {locs : List Loc} {ls : Array Slot} (h : f_R_word_17 post σ x1 s0) (hw : CX D vcl (tyl cA) (wR cA a σ) X A s H locs) (hl : lv_has ls 2 [(0, .ref (a 0)), (1, .int x1)]) : W p l e r_R_word s m args below meth c H locs 0 0 Q (F0 m 17 ls [.int s0, .ref (a 0)]) := by
  have hx := fx.1
  have hb := fx.2.1
  unfold f_R_word_17 at h
  refine lv_iconst (pc := 17) (v := 1) hx hb d_R_word_17 (by decide) ?_
  refine cxI (pc := 18) hX fx hw (c_R_fails hX h) cw_R_77 (rcR_0 hw) rfl ⟨Nat.le_of_ble_eq_true rfl, Nat.le_of_ble_eq_true rfl⟩ hl.1 (Nat.le_of_ble_eq_true rfl) d_R_word_18 ⟨Nat.zero_le _, Nat.zero_le _⟩ (fun r_2 σ_1 H locs hw h => ?_)
  have zr_2 := h.1
  replace h := h.2
  refine lv_if_eq (pc := 21) (tgt := 26) hx hb d_R_word_21 (by decide) (fun c9 => ?_) (fun c9 => ?_)
  · replace h := h.1 c9
    refine lv_aload_n (pc := 26) hx hb d_R_word_26 rfl (lv_at hl 0 rfl) ?_
    refine gR_0_memory (pc := 27) fx hw kw_1067 d_R_word_27 ?_
    refine lv_iload_n (pc := 30) hx hb d_R_word_30 rfl (lv_at hl 1 rfl) ?_
    refine alR_1 (pc := 31) fx hw h.1 d_R_word_31 ?_
    replace h := h.2
    exact HR rfl d_R_word_32 h hw
  · replace h := h.2 c9
    refine lv_iconst (pc := 24) (v := 0) hx hb d_R_word_24 (by decide) ?_
    exact HR rfl d_R_word_25 h hw
set_option maxHeartbeats 4000000 in
set_option maxRecDepth 100000 in
theorem e_R_word (hX : XT X) (fx : CallFix p m c b_R_word 2 s args GW RNR) {post : Int32 → SS → Prop} (HR : RetI p l e r_R_word s m args below meth c Q D vcl (tyl cA) (wR cA a) X A b_R_word .int post) {σ : SS} {x1 : Int32} {H : Heap} {locs : List Loc} {ls : Array Slot} (h : f_R_word post σ x1) (hw : CX D vcl (tyl cA) (wR cA a σ) X A s H locs) (hl : lv_has ls 2 [(0, .ref (a 0)), (1, .int x1)]) : W p l e r_R_word s m args below meth c H locs 0 0 Q (F0 m 0 ls []) := by
  have hx := fx.1
  have hb := fx.2.1
  unfold f_R_word at h
  refine lv_aload_n (pc := 0) hx hb d_R_word_0 rfl (lv_at hl 0 rfl) ?_
  refine lv_iload_n (pc := 1) hx hb d_R_word_1 rfl (lv_at hl 1 rfl) ?_
  refine lv_iconst (pc := 2) (v := 0) hx hb d_R_word_2 (by decide) ?_
  refine lv_sipush (pc := 3) (v := 32767) hx hb d_R_word_3 (by decide) ?_
  refine cxSI (pc := 6) hX fx hw (c_R_within hX h) cw_R_72 rfl ⟨Nat.le_of_ble_eq_true rfl, Nat.le_of_ble_eq_true rfl⟩ hl.1 (Nat.le_of_ble_eq_true rfl) d_R_word_6 ⟨Nat.zero_le _, Nat.zero_le _⟩ (fun r_4 σ_3 H locs hw h => ?_)
  have zr_4 := h.1
  replace h := h.2
  refine lv_if_ne (pc := 9) (tgt := 16) hx hb d_R_word_9 (by decide) (fun c9 => ?_) (fun c9 => ?_)
  · replace h := h.2 c9
    refine lv_iconst (pc := 16) (v := 0) hx hb d_R_word_16 (by decide) ?_
    exact c_R_word_17 hX fx HR h hw (lv_sub hl [0, 1] rfl)
  · replace h := h.1 c9
    refine lv_iconst (pc := 12) (v := 1) hx hb d_R_word_12 (by decide) ?_
    refine lv_goto (pc := 13) (tgt := 17) hx hb d_R_word_13 (by decide) ?_
    exact c_R_word_17 hX fx HR h hw (lv_sub hl [0, 1] rfl)
end
theorem c_R_word {l : Launch} {D : va_G} {cA : Nat → ClassId} {a : Nat → Nat} {X : (Nat → Prop) → State → Prop} (hX : XT X) {σ : SS} {post : Int32 → SS → Prop} {x1 : Int32} (h : f_R_word post σ x1) : mI l y_R_word b_R_word 2 (some .int) 1 22 D vcl (tyl cA) (wR cA a) X σ [.ref (a 0), .int x1] post := met_I (by decide) (Nat.le_of_ble_eq_true rfl) (fun p e s m args below meth c A Q fx HR H ls hw hl => e_R_word hX fx HR h hw hl)
abbrev r_R_registerOf : Room := { frames := 0, cells := 0, slots := 0, locals := 0 }
def f_R_registerOf (post : Int32 → SS → Prop) (σ : SS) (x1 : Int32) : Prop := br (4 ≤ x1) (br (x1 = 4) (post (σ.1 0) σ) (br (x1 = 5) (post (σ.1 1) σ) (post (σ.1 2) σ))) (vp_in x1 4 ∧ post (σ.2.1 2 x1.toNatClampNeg) σ)
section
variable {p : Program} {l : Launch} {e : Env} {s : State} {m : MethodId} {args : Array Value} {below : List Frame} {meth : Method} {c : Code} {Q : State → Prop} {D : va_G} {cA : Nat → ClassId} {a : Nat → Nat} {X : (Nat → Prop) → State → Prop} {A : Nat → Prop}
set_option maxHeartbeats 4000000 in
set_option maxRecDepth 100000 in
theorem e_R_registerOf (hX : XT X) (fx : CallFix p m c b_R_registerOf 2 s args GW RNR) {post : Int32 → SS → Prop} (HR : RetI p l e r_R_registerOf s m args below meth c Q D vcl (tyl cA) (wR cA a) X A b_R_registerOf .int post) {σ : SS} {x1 : Int32} {H : Heap} {locs : List Loc} {ls : Array Slot} (h : f_R_registerOf post σ x1) (hw : CX D vcl (tyl cA) (wR cA a σ) X A s H locs) (hl : lv_has ls 2 [(0, .ref (a 0)), (1, .int x1)]) : W p l e r_R_registerOf s m args below meth c H locs 0 0 Q (F0 m 0 ls []) := by
  have hx := fx.1
  have hb := fx.2.1
  unfold f_R_registerOf at h
  refine lv_iload_n (pc := 0) hx hb d_R_registerOf_0 rfl (lv_at hl 1 rfl) ?_
  refine lv_iconst (pc := 1) (v := 4) hx hb d_R_registerOf_1 (by decide) ?_
  refine lv_icmp_ge (pc := 2) (tgt := 14) hx hb d_R_registerOf_2 (by decide) (fun c9 => ?_) (fun c9 => ?_)
  · replace h := h.1 c9
    refine lv_iload_n (pc := 14) hx hb d_R_registerOf_14 rfl (lv_at hl 1 rfl) ?_
    refine lv_iconst (pc := 15) (v := 4) hx hb d_R_registerOf_15 (by decide) ?_
    refine lv_icmp_ne (pc := 16) (tgt := 26) hx hb d_R_registerOf_16 (by decide) (fun c9 => ?_) (fun c9 => ?_)
    · replace h := h.2 c9
      refine lv_iload_n (pc := 26) hx hb d_R_registerOf_26 rfl (lv_at hl 1 rfl) ?_
      refine lv_iconst (pc := 27) (v := 5) hx hb d_R_registerOf_27 (by decide) ?_
      refine lv_icmp_ne (pc := 28) (tgt := 38) hx hb d_R_registerOf_28 (by decide) (fun c9 => ?_) (fun c9 => ?_)
      · replace h := h.2 c9
        refine lv_aload_n (pc := 38) hx hb d_R_registerOf_38 rfl (lv_at hl 0 rfl) ?_
        refine gR_0_switches (pc := 39) fx hw kw_1071 d_R_registerOf_39 ?_
        exact HR rfl d_R_registerOf_42 h hw
      · replace h := h.1 c9
        refine lv_aload_n (pc := 31) hx hb d_R_registerOf_31 rfl (lv_at hl 0 rfl) ?_
        refine gR_0_pc (pc := 32) fx hw kw_1070 d_R_registerOf_32 ?_
        refine lv_goto (pc := 35) (tgt := 42) hx hb d_R_registerOf_35 (by decide) ?_
        exact HR rfl d_R_registerOf_42 h hw
    · replace h := h.1 c9
      refine lv_aload_n (pc := 19) hx hb d_R_registerOf_19 rfl (lv_at hl 0 rfl) ?_
      refine gR_0_carry (pc := 20) fx hw kw_1069 d_R_registerOf_20 ?_
      refine lv_goto (pc := 23) (tgt := 42) hx hb d_R_registerOf_23 (by decide) ?_
      exact HR rfl d_R_registerOf_42 h hw
  · replace h := h.2 c9
    refine lv_aload_n (pc := 5) hx hb d_R_registerOf_5 rfl (lv_at hl 0 rfl) ?_
    refine gR_0_accumulators (pc := 6) fx hw kw_1068 d_R_registerOf_6 ?_
    refine lv_iload_n (pc := 9) hx hb d_R_registerOf_9 rfl (lv_at hl 1 rfl) ?_
    refine alR_2 (pc := 10) fx hw h.1 d_R_registerOf_10 ?_
    replace h := h.2
    refine lv_goto (pc := 11) (tgt := 42) hx hb d_R_registerOf_11 (by decide) ?_
    exact HR rfl d_R_registerOf_42 h hw
end
theorem c_R_registerOf {l : Launch} {D : va_G} {cA : Nat → ClassId} {a : Nat → Nat} {X : (Nat → Prop) → State → Prop} (hX : XT X) {σ : SS} {post : Int32 → SS → Prop} {x1 : Int32} (h : f_R_registerOf post σ x1) : mI l y_R_registerOf b_R_registerOf 2 (some .int) 0 0 D vcl (tyl cA) (wR cA a) X σ [.ref (a 0), .int x1] post := met_I (by decide) (Nat.le_of_ble_eq_true rfl) (fun p e s m args below meth c A Q fx HR H ls hw hl => e_R_registerOf hX fx HR h hw hl)
