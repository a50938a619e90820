/-! the reference, walked: part 1 -/
abbrev r_R_thrown : Room := { frames := 0, cells := 0, slots := 0, locals := 0 }
def f_R_thrown (post : Int32 → SS → Prop) (σ : SS) : Prop := post (σ.1 29) σ
section
variable {p : Program} {l : Launch} {e : Env} {s : State} {m : MethodId} {args : Array Value} {below : List Frame} {meth : Method} {c : Code} {Q : State → Prop} {D : va_G} {cA : Nat → ClassId} {a : Nat → Nat} {X : (Nat → Prop) → State → Prop} {A : Nat → Prop}
set_option maxHeartbeats 4000000 in
set_option maxRecDepth 100000 in
theorem e_R_thrown (hX : XT X) (fx : CallFix p m c b_R_thrown 1 s args GW RNR) {post : Int32 → SS → Prop} (HR : RetI p l e r_R_thrown s m args below meth c Q D vcl (tyl cA) (wR cA a) X A b_R_thrown .int post) {σ : SS} {H : Heap} {locs : List Loc} {ls : Array Slot} (h : f_R_thrown post σ) (hw : CX D vcl (tyl cA) (wR cA a σ) X A s H locs) (hl : lv_has ls 1 [(0, .ref (a 0))]) : W p l e r_R_thrown s m args below meth c H locs 0 0 Q (F0 m 0 ls []) := by
  have hx := fx.1
  have hb := fx.2.1
  unfold f_R_thrown at h
  refine lv_aload_n (pc := 0) hx hb d_R_thrown_0 rfl (lv_at hl 0 rfl) ?_
  refine gR_0_thrown (pc := 1) fx hw kw_1115 d_R_thrown_1 ?_
  exact HR rfl d_R_thrown_4 h hw
end
theorem c_R_thrown {l : Launch} {D : va_G} {cA : Nat → ClassId} {a : Nat → Nat} {X : (Nat → Prop) → State → Prop} (hX : XT X) {σ : SS} {post : Int32 → SS → Prop} (h : f_R_thrown post σ) : mI l y_R_thrown b_R_thrown 1 (some .int) 0 0 D vcl (tyl cA) (wR cA a) X σ [.ref (a 0)] post := met_I (by decide) (Nat.le_of_ble_eq_true rfl) (fun p e s m args below meth c A Q fx HR H ls hw hl => e_R_thrown hX fx HR h hw hl)
abbrev r_R_fails : Room := { frames := 0, cells := 0, slots := 0, locals := 0 }
def f_R_fails_10 (post : Int32 → SS → Prop) (σ : SS) (x1 : Int32) (s0 : Int32) : Prop := nm (sI σ 29 s0) fun σ_1 => bz x1 ∧ post x1 σ_1
def f_R_fails (post : Int32 → SS → Prop) (σ : SS) (x1 : Int32) (x2 : Int32) : Prop := br (x1 = 0) (f_R_fails_10 post σ x1 0) (f_R_fails_10 post σ x1 x2)
section
variable {p : Program} {l : Launch} {e : Env} {s : State} {m : MethodId} {args : Array Value} {below : List Frame} {meth : Method} {c : Code} {Q : State → Prop} {D : va_G} {cA : Nat → ClassId} {a : Nat → Nat} {X : (Nat → Prop) → State → Prop} {A : Nat → Prop}
set_option maxHeartbeats 4000000 in
set_option maxRecDepth 100000 in
theorem c_R_fails_10 (hX : XT X) (fx : CallFix p m c b_R_fails 3 s args GW RNR) {post : Int32 → SS → Prop} (HR : RetI p l e r_R_fails s m args below meth c Q D vcl (tyl cA) (wR cA a) X A b_R_fails .boolean (fun r σ => bz r ∧ post r σ)) {σ : SS} {x1 : Int32} {s0 : Int32} {H : Heap} {locs : List Loc} {ls : Array Slot} (h : f_R_fails_10 post σ x1 s0) (hw : CX D vcl (tyl cA) (wR cA a σ) X A s H locs) (hl : lv_has ls 3 [(1, .int x1)]) : W p l e r_R_fails s m args below meth c H locs 0 0 Q (F0 m 10 ls [.int s0, .ref (a 0)]) := by
  have hx := fx.1
  have hb := fx.2.1
  unfold f_R_fails_10 at h
  refine pR_0_thrown (pc := 10) fx hw kw_1115 d_R_fails_10 (fun σ_1 e9 H locs hw => ?_)
  replace h := nm_u h e9
  clear e9
  refine lv_iload_n (pc := 13) hx hb d_R_fails_13 rfl (lv_at hl 0 rfl) ?_
  exact HR (bz_n h.1) d_R_fails_14 h hw
set_option maxHeartbeats 4000000 in
set_option maxRecDepth 100000 in
theorem e_R_fails (hX : XT X) (fx : CallFix p m c b_R_fails 3 s args GW RNR) {post : Int32 → SS → Prop} (HR : RetI p l e r_R_fails s m args below meth c Q D vcl (tyl cA) (wR cA a) X A b_R_fails .boolean (fun r σ => bz r ∧ post r σ)) {σ : SS} {x1 : Int32} {x2 : Int32} {H : Heap} {locs : List Loc} {ls : Array Slot} (h : f_R_fails post σ x1 x2) (hw : CX D vcl (tyl cA) (wR cA a σ) X A s H locs) (hl : lv_has ls 3 [(0, .ref (a 0)), (1, .int x1), (2, .int x2)]) : W p l e r_R_fails s m args below meth c H locs 0 0 Q (F0 m 0 ls []) := by
  have hx := fx.1
  have hb := fx.2.1
  unfold f_R_fails at h
  refine lv_aload_n (pc := 0) hx hb d_R_fails_0 rfl (lv_at hl 0 rfl) ?_
  refine lv_iload_n (pc := 1) hx hb d_R_fails_1 rfl (lv_at hl 1 rfl) ?_
  refine lv_if_eq (pc := 2) (tgt := 9) hx hb d_R_fails_2 (by decide) (fun c9 => ?_) (fun c9 => ?_)
  · replace h := h.1 c9
    refine lv_iconst (pc := 9) (v := 0) hx hb d_R_fails_9 (by decide) ?_
    exact c_R_fails_10 hX fx HR h hw (lv_sub hl [1] rfl)
  · replace h := h.2 c9
    refine lv_iload_n (pc := 5) hx hb d_R_fails_5 rfl (lv_at hl 2 rfl) ?_
    refine lv_goto (pc := 6) (tgt := 10) hx hb d_R_fails_6 (by decide) ?_
    exact c_R_fails_10 hX fx HR h hw (lv_sub hl [1] rfl)
end
theorem c_R_fails {l : Launch} {D : va_G} {cA : Nat → ClassId} {a : Nat → Nat} {X : (Nat → Prop) → State → Prop} (hX : XT X) {σ : SS} {post : Int32 → SS → Prop} {x1 : Int32} {x2 : Int32} (h : f_R_fails post σ x1 x2) : mI l y_R_fails b_R_fails 3 (some .boolean) 0 0 D vcl (tyl cA) (wR cA a) X σ [.ref (a 0), .int x1, .int x2] (fun r σ => bz r ∧ post r σ) := met_I (by decide) (Nat.le_of_ble_eq_true rfl) (fun p e s m args below meth c A Q fx HR H ls hw hl => e_R_fails hX fx HR h hw hl)
abbrev r_R_within : Room := { frames := 0, cells := 0, slots := 0, locals := 0 }
def f_R_within (post : Int32 → SS → Prop) (σ : SS) (x0 : Int32) (x1 : Int32) (x2 : Int32) : Prop := br (x0 < x1) (post 0 σ) (br (x2 < x0) (post 0 σ) (post 1 σ))
section
variable {p : Program} {l : Launch} {e : Env} {s : State} {m : MethodId} {args : Array Value} {below : List Frame} {meth : Method} {c : Code} {Q : State → Prop} {D : va_G} {cA : Nat → ClassId} {a : Nat → Nat} {X : (Nat → Prop) → State → Prop} {A : Nat → Prop}
set_option maxHeartbeats 4000000 in
set_option maxRecDepth 100000 in
theorem e_R_within (hX : XT X) (fx : CallFix p m c b_R_within 3 s args GW RNR) {post : Int32 → SS → Prop} (HR : RetI p l e r_R_within s m args below meth c Q D vcl (tyl cA) (wR cA a) X A b_R_within .boolean (fun r σ => bz r ∧ post r σ)) {σ : SS} {x0 : Int32} {x1 : Int32} {x2 : Int32} {H : Heap} {locs : List Loc} {ls : Array Slot} (h : f_R_within post σ x0 x1 x2) (hw : CX D vcl (tyl cA) (wR cA a σ) X A s H locs) (hl : lv_has ls 3 [(0, .int x0), (1, .int x1), (2, .int x2)]) : W p l e r_R_within s m args below meth c H locs 0 0 Q (F0 m 0 ls []) := by
  have hx := fx.1
  have hb := fx.2.1
  unfold f_R_within at h
  refine lv_iload_n (pc := 0) hx hb d_R_within_0 rfl (lv_at hl 0 rfl) ?_
  refine lv_iload_n (pc := 1) hx hb d_R_within_1 rfl (lv_at hl 1 rfl) ?_
  refine lv_icmp_lt (pc := 2) (tgt := 14) hx hb d_R_within_2 (by decide) (fun c9 => ?_) (fun c9 => ?_)
  · replace h := h.1 c9
    refine lv_iconst (pc := 14) (v := 0) hx hb d_R_within_14 (by decide) ?_
    exact HR (bz_n bz_0) d_R_within_15 ⟨bz_0, h⟩ hw
  · replace h := h.2 c9
    refine lv_iload_n (pc := 5) hx hb d_R_within_5 rfl (lv_at hl 0 rfl) ?_
    refine lv_iload_n (pc := 6) hx hb d_R_within_6 rfl (lv_at hl 2 rfl) ?_
    refine lv_icmp_gt (pc := 7) (tgt := 14) hx hb d_R_within_7 (by decide) (fun c9 => ?_) (fun c9 => ?_)
    · replace h := h.1 c9
      refine lv_iconst (pc := 14) (v := 0) hx hb d_R_within_14 (by decide) ?_
      exact HR (bz_n bz_0) d_R_within_15 ⟨bz_0, h⟩ hw
    · replace h := h.2 c9
      refine lv_iconst (pc := 10) (v := 1) hx hb d_R_within_10 (by decide) ?_
      refine lv_goto (pc := 11) (tgt := 15) hx hb d_R_within_11 (by decide) ?_
      exact HR (bz_n bz_1) d_R_within_15 ⟨bz_1, h⟩ hw
end
theorem c_R_within {l : Launch} {D : va_G} {cA : Nat → ClassId} {a : Nat → Nat} {X : (Nat → Prop) → State → Prop} (hX : XT X) {σ : SS} {post : Int32 → SS → Prop} {x0 : Int32} {x1 : Int32} {x2 : Int32} (h : f_R_within post σ x0 x1 x2) : mI l y_R_within b_R_within 3 (some .boolean) 0 0 D vcl (tyl cA) (wR cA a) X σ [.int x0, .int x1, .int x2] (fun r σ => bz r ∧ post r σ) := met_I (by decide) (Nat.le_of_ble_eq_true rfl) (fun p e s m args below meth c A Q fx HR H ls hw hl => e_R_within hX fx HR h hw hl)
abbrev r_R_put : Room := { frames := 1, cells := 0, slots := 0, locals := 22 }
def f_R_put_27 (post : Int32 → SS → Prop) (σ : SS) (x1 : Int32) (x2 : Int32) (s0 : Int32) : Prop := f_R_fails (fun r_2 σ_1 => br (r_2 = 0) (vp_in x1 32768 ∧ nm (σ_1.2.1 1 x1.toNatClampNeg) fun x3_3 => vp_in x1 32768 ∧ nm (sA σ_1 1 x1.toNatClampNeg x2) fun σ_4 => post x3_3 σ_4) (post 0 σ_1)) σ s0 1
def f_R_put (post : Int32 → SS → Prop) (σ : SS) (x1 : Int32) (x2 : Int32) : Prop := f_R_within (fun r_6 σ_5 => br (r_6 = 0) (f_R_put_27 post σ_5 x1 x2 1) (f_R_within (fun r_8 σ_7 => br (r_8 = 0) (f_R_put_27 post σ_7 x1 x2 1) (f_R_put_27 post σ_7 x1 x2 0)) σ_5 x2 0 65535)) σ x1 0 32767
section
variable {p : Program} {l : Launch} {e : Env} {s : State} {m : MethodId} {args : Array Value} {below : List Frame} {meth : Method} {c : Code} {Q : State → Prop} {D : va_G} {cA : Nat → ClassId} {a : Nat → Nat} {X : (Nat → Prop) → State → Prop} {A : Nat → Prop}
set_option maxHeartbeats 4000000 in
set_option maxRecDepth 100000 in
theorem c_R_put_27 (hX : XT X) (fx : CallFix p m c b_R_put 4 s args GW RNR) {post : Int32 → SS → Prop} (HR : RetI p l e r_R_put s m args below meth c Q D vcl (tyl cA) (wR cA a) X A b_R_put .int post) {σ : SS} {x1 : Int32} {x2 : Int32} {s0 : Int32} {H : Heap} {locs : List Loc} {ls : Array Slot} (h : f_R_put_27 post σ x1 x2 s0) (hw : CX D vcl (tyl cA) (wR cA a σ) X A s H locs) (hl : lv_has ls 4 [(0, .ref (a 0)), (1, .int x1), (2, .int x2)]) : W p l e r_R_put s m args below meth c H locs 0 0 Q (F0 m 27 ls [.int s0, .ref (a 0)]) := by
  have hx := fx.1
  have hb := fx.2.1
  unfold f_R_put_27 at h
  refine lv_iconst (pc := 27) (v := 1) hx hb d_R_put_27 (by decide) ?_
  refine cxI (pc := 28) hX fx hw (c_R_fails hX h) cw_R_77 (rcR_0 hw) rfl ⟨Nat.le_of_ble_eq_true rfl, Nat.le_of_ble_eq_true rfl⟩ hl.1 (Nat.le_of_ble_eq_true rfl) d_R_put_28 ⟨Nat.zero_le _, Nat.zero_le _⟩ (fun r_2 σ_1 H locs hw h => ?_)
  have zr_2 := h.1
  replace h := h.2
  refine lv_if_eq (pc := 31) (tgt := 36) hx hb d_R_put_31 (by decide) (fun c9 => ?_) (fun c9 => ?_)
  · replace h := h.1 c9
    refine lv_aload_n (pc := 36) hx hb d_R_put_36 rfl (lv_at hl 0 rfl) ?_
    refine gR_0_memory (pc := 37) fx hw kw_1067 d_R_put_37 ?_
    refine lv_iload_n (pc := 40) hx hb d_R_put_40 rfl (lv_at hl 1 rfl) ?_
    refine alR_1 (pc := 41) fx hw h.1 d_R_put_41 ?_
    replace h := h.2
    refine lv_topi (fun x3_3 e9 => ?_)
    replace h := nm_u h e9
    clear e9
    refine lv_istore_n (pc := 42) (lv' := [(3, .int x3_3), (0, .ref (a 0)), (1, .int x1), (2, .int x2)]) hx hb d_R_put_42 rfl hl (by decide) rfl (fun ls hl => ?_)
    refine lv_aload_n (pc := 43) hx hb d_R_put_43 rfl (lv_at hl 1 rfl) ?_
    refine gR_0_memory (pc := 44) fx hw kw_1067 d_R_put_44 ?_
    refine lv_iload_n (pc := 47) hx hb d_R_put_47 rfl (lv_at hl 2 rfl) ?_
    refine lv_iload_n (pc := 48) hx hb d_R_put_48 rfl (lv_at hl 3 rfl) ?_
    refine asR_1 (pc := 49) fx hw h.1 d_R_put_49 (fun σ_4 e9 H locs hw => ?_)
    replace h := nm_u h.2 e9
    clear e9
    refine lv_iload_n (pc := 50) hx hb d_R_put_50 rfl (lv_at hl 0 rfl) ?_
    exact HR rfl d_R_put_51 h hw
  · replace h := h.2 c9
    refine lv_iconst (pc := 34) (v := 0) hx hb d_R_put_34 (by decide) ?_
    exact HR rfl d_R_put_35 h hw
set_option maxHeartbeats 4000000 in
set_option maxRecDepth 100000 in
theorem e_R_put (hX : XT X) (fx : CallFix p m c b_R_put 4 s args GW RNR) {post : Int32 → SS → Prop} (HR : RetI p l e r_R_put s m args below meth c Q D vcl (tyl cA) (wR cA a) X A b_R_put .int post) {σ : SS} {x1 : Int32} {x2 : Int32} {H : Heap} {locs : List Loc} {ls : Array Slot} (h : f_R_put post σ x1 x2) (hw : CX D vcl (tyl cA) (wR cA a σ) X A s H locs) (hl : lv_has ls 4 [(0, .ref (a 0)), (1, .int x1), (2, .int x2)]) : W p l e r_R_put s m args below meth c H locs 0 0 Q (F0 m 0 ls []) := by
  have hx := fx.1
  have hb := fx.2.1
  unfold f_R_put at h
  refine lv_aload_n (pc := 0) hx hb d_R_put_0 rfl (lv_at hl 0 rfl) ?_
  refine lv_iload_n (pc := 1) hx hb d_R_put_1 rfl (lv_at hl 1 rfl) ?_
  refine lv_iconst (pc := 2) (v := 0) hx hb d_R_put_2 (by decide) ?_
  refine lv_sipush (pc := 3) (v := 32767) hx hb d_R_put_3 (by decide) ?_
  refine cxSI (pc := 6) hX fx hw (c_R_within hX h) cw_R_72 rfl ⟨Nat.le_of_ble_eq_true rfl, Nat.le_of_ble_eq_true rfl⟩ hl.1 (Nat.le_of_ble_eq_true rfl) d_R_put_6 ⟨Nat.zero_le _, Nat.zero_le _⟩ (fun r_6 σ_5 H locs hw h => ?_)
  have zr_6 := h.1
  replace h := h.2
  refine lv_if_eq (pc := 9) (tgt := 22) hx hb d_R_put_9 (by decide) (fun c9 => ?_) (fun c9 => ?_)
  · replace h := h.1 c9
    refine lv_iconst (pc := 22) (v := 1) hx hb d_R_put_22 (by decide) ?_
    refine lv_goto (pc := 23) (tgt := 27) hx hb d_R_put_23 (by decide) ?_
    exact c_R_put_27 hX fx HR h hw (lv_sub hl [0, 1, 2] rfl)
  · replace h := h.2 c9
    refine lv_iload_n (pc := 12) hx hb d_R_put_12 rfl (lv_at hl 2 rfl) ?_
    refine lv_iconst (pc := 13) (v := 0) hx hb d_R_put_13 (by decide) ?_
    refine lv_ldc (pc := 14) (v := 65535) hx hb fx.2.2.2.1 (fx.2.2.2.2 _ kw_1227) d_R_put_14 ?_
    refine cxSI (pc := 16) hX fx hw (c_R_within hX h) cw_R_72 rfl ⟨Nat.le_of_ble_eq_true rfl, Nat.le_of_ble_eq_true rfl⟩ hl.1 (Nat.le_of_ble_eq_true rfl) d_R_put_16 ⟨Nat.zero_le _, Nat.zero_le _⟩ (fun r_8 σ_7 H locs hw h => ?_)
    have zr_8 := h.1
    replace h := h.2
    refine lv_if_ne (pc := 19) (tgt := 26) hx hb d_R_put_19 (by decide) (fun c9 => ?_) (fun c9 => ?_)
    · replace h := h.2 c9
      refine lv_iconst (pc := 26) (v := 0) hx hb d_R_put_26 (by decide) ?_
      exact c_R_put_27 hX fx HR h hw (lv_sub hl [0, 1, 2] rfl)
    · replace h := h.1 c9
      refine lv_iconst (pc := 22) (v := 1) hx hb d_R_put_22 (by decide) ?_
      refine lv_goto (pc := 23) (tgt := 27) hx hb d_R_put_23 (by decide) ?_
      exact c_R_put_27 hX fx HR h hw (lv_sub hl [0, 1, 2] rfl)
end
theorem c_R_put {l : Launch} {D : va_G} {cA : Nat → ClassId} {a : Nat → Nat} {X : (Nat → Prop) → State → Prop} (hX : XT X) {σ : SS} {post : Int32 → SS → Prop} {x1 : Int32} {x2 : Int32} (h : f_R_put post σ x1 x2) : mI l y_R_put b_R_put 4 (some .int) 1 22 D vcl (tyl cA) (wR cA a) X σ [.ref (a 0), .int x1, .int x2] post := met_I (by decide) (Nat.le_of_ble_eq_true rfl) (fun p e s m args below meth c A Q fx HR H ls hw hl => e_R_put hX fx HR h hw hl)
abbrev r_R_word : Room := { frames := 1, cells := 0, slots := 0, locals := 22 }
def f_R_word_17 (post : Int32 → SS → Prop) (σ : SS) (x1 : Int32) (s0 : Int32) : Prop := f_R_fails (fun r_2 σ_1 => br (r_2 = 0) (vp_in x1 32768 ∧ post (σ_1.2.1 1 x1.toNatClampNeg) σ_1) (post 0 σ_1)) σ s0 1
def f_R_word (post : Int32 → SS → Prop) (σ : SS) (x1 : Int32) : Prop := f_R_within (fun r_4 σ_3 => br (r_4 = 0) (f_R_word_17 post σ_3 x1 1) (f_R_word_17 post σ_3 x1 0)) σ x1 0 32767
section
variable {p : Program} {l : Launch} {e : Env} {s : State} {m : MethodId} {args : Array Value} {below : List Frame} {meth : Method} {c : Code} {Q : State → Prop} {D : va_G} {cA : Nat → ClassId} {a : Nat → Nat} {X : (Nat → Prop) → State → Prop} {A : Nat → Prop}
set_option maxHeartbeats 4000000 in
set_option maxRecDepth 100000 in
theorem c_R_word_17 (hX : XT X) (fx : CallFix p m c b_R_word 2 s args GW RNR) {post : Int32 → SS → Prop} (HR : RetI p l e r_R_word s m args below meth c Q D vcl (tyl cA) (wR cA a) X A b_R_word .int post) {σ : SS} {x1 : Int32} {s0 : Int32} {H : Heap} {locs : List Loc} {ls : Array Slot} (h : f_R_word_17 post σ x1 s0) (hw : CX D vcl (tyl cA) (wR cA a σ) X A s H locs) (hl : lv_has ls 2 [(0, .ref (a 0)), (1, .int x1)]) : W p l e r_R_word s m args below meth c H locs 0 0 Q (F0 m 17 ls [.int s0, .ref (a 0)]) := by
  have hx := fx.1
  have hb := fx.2.1
  unfold f_R_word_17 at h
  refine lv_iconst (pc := 17) (v := 1) hx hb d_R_word_17 (by decide) ?_
  refine cxI (pc := 18) hX fx hw (c_R_fails hX h) cw_R_77 (rcR_0 hw) rfl ⟨Nat.le_of_ble_eq_true rfl, Nat.le_of_ble_eq_true rfl⟩ hl.1 (Nat.le_of_ble_eq_true rfl) d_R_word_18 ⟨Nat.zero_le _, Nat.zero_le _⟩ (fun r_2 σ_1 H locs hw h => ?_)
  have zr_2 := h.1
  replace h := h.2
  refine lv_if_eq (pc := 21) (tgt := 26) hx hb d_R_word_21 (by decide) (fun c9 => ?_) (fun c9 => ?_)
  · replace h := h.1 c9
    refine lv_aload_n (pc := 26) hx hb d_R_word_26 rfl (lv_at hl 0 rfl) ?_
    refine gR_0_memory (pc := 27) fx hw kw_1067 d_R_word_27 ?_
    refine lv_iload_n (pc := 30) hx hb d_R_word_30 rfl (lv_at hl 1 rfl) ?_
    refine alR_1 (pc := 31) fx hw h.1 d_R_word_31 ?_
    replace h := h.2
    exact HR rfl d_R_word_32 h hw
  · replace h := h.2 c9
    refine lv_iconst (pc := 24) (v := 0) hx hb d_R_word_24 (by decide) ?_
    exact HR rfl d_R_word_25 h hw
set_option maxHeartbeats 4000000 in
set_option maxRecDepth 100000 in
theorem e_R_word (hX : XT X) (fx : CallFix p m c b_R_word 2 s args GW RNR) {post : Int32 → SS → Prop} (HR : RetI p l e r_R_word s m args below meth c Q D vcl (tyl cA) (wR cA a) X A b_R_word .int post) {σ : SS} {x1 : Int32} {H : Heap} {locs : List Loc} {ls : Array Slot} (h : f_R_word post σ x1) (hw : CX D vcl (tyl cA) (wR cA a σ) X A s H locs) (hl : lv_has ls 2 [(0, .ref (a 0)), (1, .int x1)]) : W p l e r_R_word s m args below meth c H locs 0 0 Q (F0 m 0 ls []) := by
  have hx := fx.1
  have hb := fx.2.1
  unfold f_R_word at h
  refine lv_aload_n (pc := 0) hx hb d_R_word_0 rfl (lv_at hl 0 rfl) ?_
  refine lv_iload_n (pc := 1) hx hb d_R_word_1 rfl (lv_at hl 1 rfl) ?_
  refine lv_iconst (pc := 2) (v := 0) hx hb d_R_word_2 (by decide) ?_
  refine lv_sipush (pc := 3) (v := 32767) hx hb d_R_word_3 (by decide) ?_
  refine cxSI (pc := 6) hX fx hw (c_R_within hX h) cw_R_72 rfl ⟨Nat.le_of_ble_eq_true rfl, Nat.le_of_ble_eq_true rfl⟩ hl.1 (Nat.le_of_ble_eq_true rfl) d_R_word_6 ⟨Nat.zero_le _, Nat.zero_le _⟩ (fun r_4 σ_3 H locs hw h => ?_)
  have zr_4 := h.1
  replace h := h.2
  refine lv_if_ne (pc := 9) (tgt := 16) hx hb d_R_word_9 (by decide) (fun c9 => ?_) (fun c9 => ?_)
  · replace h := h.2 c9
    refine lv_iconst (pc := 16) (v := 0) hx hb d_R_word_16 (by decide) ?_
    exact c_R_word_17 hX fx HR h hw (lv_sub hl [0, 1] rfl)
  · replace h := h.1 c9
    refine lv_iconst (pc := 12) (v := 1) hx hb d_R_word_12 (by decide) ?_
    refine lv_goto (pc := 13) (tgt := 17) hx hb d_R_word_13 (by decide) ?_
    exact c_R_word_17 hX fx HR h hw (lv_sub hl [0, 1] rfl)
end
theorem c_R_word {l : Launch} {D : va_G} {cA : Nat → ClassId} {a : Nat → Nat} {X : (Nat → Prop) → State → Prop} (hX : XT X) {σ : SS} {post : Int32 → SS → Prop} {x1 : Int32} (h : f_R_word post σ x1) : mI l y_R_word b_R_word 2 (some .int) 1 22 D vcl (tyl cA) (wR cA a) X σ [.ref (a 0), .int x1] post := met_I (by decide) (Nat.le_of_ble_eq_true rfl) (fun p e s m args below meth c A Q fx HR H ls hw hl => e_R_word hX fx HR h hw hl)
abbrev r_R_registerOf : Room := { frames := 0, cells := 0, slots := 0, locals := 0 }
def f_R_registerOf (post : Int32 → SS → Prop) (σ : SS) (x1 : Int32) : Prop := br (4 ≤ x1) (br (x1 = 4) (post (σ.1 0) σ) (br (x1 = 5) (post (σ.1 1) σ) (post (σ.1 2) σ))) (vp_in x1 4 ∧ post (σ.2.1 2 x1.toNatClampNeg) σ)
section
variable {p : Program} {l : Launch} {e : Env} {s : State} {m : MethodId} {args : Array Value} {below : List Frame} {meth : Method} {c : Code} {Q : State → Prop} {D : va_G} {cA : Nat → ClassId} {a : Nat → Nat} {X : (Nat → Prop) → State → Prop} {A : Nat → Prop}
set_option maxHeartbeats 4000000 in
set_option maxRecDepth 100000 in
theorem e_R_registerOf (hX : XT X) (fx : CallFix p m c b_R_registerOf 2 s args GW RNR) {post : Int32 → SS → Prop} (HR : RetI p l e r_R_registerOf s m args below meth c Q D vcl (tyl cA) (wR cA a) X A b_R_registerOf .int post) {σ : SS} {x1 : Int32} {H : Heap} {locs : List Loc} {ls : Array Slot} (h : f_R_registerOf post σ x1) (hw : CX D vcl (tyl cA) (wR cA a σ) X A s H locs) (hl : lv_has ls 2 [(0, .ref (a 0)), (1, .int x1)]) : W p l e r_R_registerOf s m args below meth c H locs 0 0 Q (F0 m 0 ls []) := by
  have hx := fx.1
  have hb := fx.2.1
  unfold f_R_registerOf at h
  refine lv_iload_n (pc := 0) hx hb d_R_registerOf_0 rfl (lv_at hl 1 rfl) ?_
  refine lv_iconst (pc := 1) (v := 4) hx hb d_R_registerOf_1 (by decide) ?_
  refine lv_icmp_ge (pc := 2) (tgt := 14) hx hb d_R_registerOf_2 (by decide) (fun c9 => ?_) (fun c9 => ?_)
  · replace h := h.1 c9
    refine lv_iload_n (pc := 14) hx hb d_R_registerOf_14 rfl (lv_at hl 1 rfl) ?_
    refine lv_iconst (pc := 15) (v := 4) hx hb d_R_registerOf_15 (by decide) ?_
    refine lv_icmp_ne (pc := 16) (tgt := 26) hx hb d_R_registerOf_16 (by decide) (fun c9 => ?_) (fun c9 => ?_)
    · replace h := h.2 c9
      refine lv_iload_n (pc := 26) hx hb d_R_registerOf_26 rfl (lv_at hl 1 rfl) ?_
      refine lv_iconst (pc := 27) (v := 5) hx hb d_R_registerOf_27 (by decide) ?_
      refine lv_icmp_ne (pc := 28) (tgt := 38) hx hb d_R_registerOf_28 (by decide) (fun c9 => ?_) (fun c9 => ?_)
      · replace h := h.2 c9
        refine lv_aload_n (pc := 38) hx hb d_R_registerOf_38 rfl (lv_at hl 0 rfl) ?_
        refine gR_0_switches (pc := 39) fx hw kw_1071 d_R_registerOf_39 ?_
        exact HR rfl d_R_registerOf_42 h hw
      · replace h := h.1 c9
        refine lv_aload_n (pc := 31) hx hb d_R_registerOf_31 rfl (lv_at hl 0 rfl) ?_
        refine gR_0_pc (pc := 32) fx hw kw_1070 d_R_registerOf_32 ?_
        refine lv_goto (pc := 35) (tgt := 42) hx hb d_R_registerOf_35 (by decide) ?_
        exact HR rfl d_R_registerOf_42 h hw
    · replace h := h.1 c9
      refine lv_aload_n (pc := 19) hx hb d_R_registerOf_19 rfl (lv_at hl 0 rfl) ?_
      refine gR_0_carry (pc := 20) fx hw kw_1069 d_R_registerOf_20 ?_
      refine lv_goto (pc := 23) (tgt := 42) hx hb d_R_registerOf_23 (by decide) ?_
      exact HR rfl d_R_registerOf_42 h hw
  · replace h := h.2 c9
    refine lv_aload_n (pc := 5) hx hb d_R_registerOf_5 rfl (lv_at hl 0 rfl) ?_
    refine gR_0_accumulators (pc := 6) fx hw kw_1068 d_R_registerOf_6 ?_
    refine lv_iload_n (pc := 9) hx hb d_R_registerOf_9 rfl (lv_at hl 1 rfl) ?_
    refine alR_2 (pc := 10) fx hw h.1 d_R_registerOf_10 ?_
    replace h := h.2
    refine lv_goto (pc := 11) (tgt := 42) hx hb d_R_registerOf_11 (by decide) ?_
    exact HR rfl d_R_registerOf_42 h hw
end
theorem c_R_registerOf {l : Launch} {D : va_G} {cA : Nat → ClassId} {a : Nat → Nat} {X : (Nat → Prop) → State → Prop} (hX : XT X) {σ : SS} {post : Int32 → SS → Prop} {x1 : Int32} (h : f_R_registerOf post σ x1) : mI l y_R_registerOf b_R_registerOf 2 (some .int) 0 0 D vcl (tyl cA) (wR cA a) X σ [.ref (a 0), .int x1] post := met_I (by decide) (Nat.le_of_ble_eq_true rfl) (fun p e s m args below meth c A Q fx HR H ls hw hl => e_R_registerOf hX fx HR h hw hl)
abbrev r_R_set : Room := { frames := 1, cells := 0, slots := 0, locals := 22 }
def f_R_set_46 (post : Int32 → SS → Prop) (σ : SS) (x1 : Int32) (x2 : Int32) (s0 : Int32) : Prop := f_R_fails (fun r_2 σ_1 => br (r_2 = 0) (f_R_registerOf (fun r_4 σ_3 => br (4 ≤ x1) (br (x1 = 4) (nm (sI σ_3 0 x2) fun σ_7 => post r_4 σ_7) (br (x1 = 5) (nm (sI σ_3 1 x2) fun σ_6 => post r_4 σ_6) (nm (sI σ_3 2 x2) fun σ_5 => post r_4 σ_5))) (vp_in x1 4 ∧ nm (sA σ_3 2 x1.toNatClampNeg x2) fun σ_8 => post r_4 σ_8)) σ_1 x1) (post 0 σ_1)) σ s0 1
def f_R_set_35 (post : Int32 → SS → Prop) (σ : SS) (x1 : Int32) (x2 : Int32) (s0 : Int32) (s1 : Int32) (s2 : Int32) : Prop := f_R_within (fun r_10 σ_9 => br (r_10 = 0) (f_R_set_46 post σ_9 x1 x2 1) (f_R_set_46 post σ_9 x1 x2 0)) σ s2 s1 s0
def f_R_set (post : Int32 → SS → Prop) (σ : SS) (x1 : Int32) (x2 : Int32) : Prop := f_R_within (fun r_12 σ_11 => br (r_12 = 0) (f_R_set_46 post σ_11 x1 x2 1) (br (x1 = 4) (f_R_set_35 post σ_11 x1 x2 1 0 x2) (br (x1 = 5) (f_R_set_35 post σ_11 x1 x2 32767 0 x2) (f_R_set_35 post σ_11 x1 x2 65535 0 x2)))) σ x1 0 6
section
variable {p : Program} {l : Launch} {e : Env} {s : State} {m : MethodId} {args : Array Value} {below : List Frame} {meth : Method} {c : Code} {Q : State → Prop} {D : va_G} {cA : Nat → ClassId} {a : Nat → Nat} {X : (Nat → Prop) → State → Prop} {A : Nat → Prop}
set_option maxHeartbeats 4000000 in
set_option maxRecDepth 100000 in
theorem c_R_set_46 (hX : XT X) (fx : CallFix p m c b_R_set 4 s args GW RNR) {post : Int32 → SS → Prop} (HR : RetI p l e r_R_set s m args below meth c Q D vcl (tyl cA) (wR cA a) X A b_R_set .int post) {σ : SS} {x1 : Int32} {x2 : Int32} {s0 : Int32} {H : Heap} {locs : List Loc} {ls : Array Slot} (h : f_R_set_46 post σ x1 x2 s0) (hw : CX D vcl (tyl cA) (wR cA a σ) X A s H locs) (hl : lv_has ls 4 [(0, .ref (a 0)), (1, .int x1), (2, .int x2)]) : W p l e r_R_set s m args below meth c H locs 0 0 Q (F0 m 46 ls [.int s0, .ref (a 0)]) := by
  have hx := fx.1
  have hb := fx.2.1
  unfold f_R_set_46 at h
  refine lv_iconst (pc := 46) (v := 1) hx hb d_R_set_46 (by decide) ?_
  refine cxI (pc := 47) hX fx hw (c_R_fails hX h) cw_R_77 (rcR_0 hw) rfl ⟨Nat.le_of_ble_eq_true rfl, Nat.le_of_ble_eq_true rfl⟩ hl.1 (Nat.le_of_ble_eq_true rfl) d_R_set_47 ⟨Nat.zero_le _, Nat.zero_le _⟩ (fun r_2 σ_1 H locs hw h => ?_)
  have zr_2 := h.1
  replace h := h.2
  refine lv_if_eq (pc := 50) (tgt := 55) hx hb d_R_set_50 (by decide) (fun c9 => ?_) (fun c9 => ?_)
  · replace h := h.1 c9
    refine lv_aload_n (pc := 55) hx hb d_R_set_55 rfl (lv_at hl 0 rfl) ?_
    refine lv_iload_n (pc := 56) hx hb d_R_set_56 rfl (lv_at hl 1 rfl) ?_
    refine cxI (pc := 57) hX fx hw (c_R_registerOf hX h) cw_R_90 (rcR_0 hw) rfl ⟨Nat.le_of_ble_eq_true rfl, Nat.le_of_ble_eq_true rfl⟩ hl.1 (Nat.le_of_ble_eq_true rfl) d_R_set_57 ⟨Nat.zero_le _, Nat.zero_le _⟩ (fun r_4 σ_3 H locs hw h => ?_)
    refine lv_istore_n (pc := 60) (lv' := [(3, .int r_4), (0, .ref (a 0)), (1, .int x1), (2, .int x2)]) hx hb d_R_set_60 rfl hl (by decide) rfl (fun ls hl => ?_)
    refine lv_iload_n (pc := 61) hx hb d_R_set_61 rfl (lv_at hl 2 rfl) ?_
    refine lv_iconst (pc := 62) (v := 4) hx hb d_R_set_62 (by decide) ?_
    refine lv_icmp_ge (pc := 63) (tgt := 76) hx hb d_R_set_63 (by decide) (fun c9 => ?_) (fun c9 => ?_)
    · replace h := h.1 c9
      refine lv_iload_n (pc := 76) hx hb d_R_set_76 rfl (lv_at hl 2 rfl) ?_
      refine lv_iconst (pc := 77) (v := 4) hx hb d_R_set_77 (by decide) ?_
      refine lv_icmp_ne (pc := 78) (tgt := 89) hx hb d_R_set_78 (by decide) (fun c9 => ?_) (fun c9 => ?_)
      · replace h := h.2 c9
        refine lv_iload_n (pc := 89) hx hb d_R_set_89 rfl (lv_at hl 2 rfl) ?_
        refine lv_iconst (pc := 90) (v := 5) hx hb d_R_set_90 (by decide) ?_
        refine lv_icmp_ne (pc := 91) (tgt := 102) hx hb d_R_set_91 (by decide) (fun c9 => ?_) (fun c9 => ?_)
        · replace h := h.2 c9
          refine lv_aload_n (pc := 102) hx hb d_R_set_102 rfl (lv_at hl 1 rfl) ?_
          refine lv_iload_n (pc := 103) hx hb d_R_set_103 rfl (lv_at hl 3 rfl) ?_
          refine pR_0_switches (pc := 104) fx hw kw_1071 d_R_set_104 (fun σ_5 e9 H locs hw => ?_)
          replace h := nm_u h e9
          clear e9
          refine lv_iload_n (pc := 107) hx hb d_R_set_107 rfl (lv_at hl 0 rfl) ?_
          exact HR rfl d_R_set_108 h hw
        · replace h := h.1 c9
          refine lv_aload_n (pc := 94) hx hb d_R_set_94 rfl (lv_at hl 1 rfl) ?_
          refine lv_iload_n (pc := 95) hx hb d_R_set_95 rfl (lv_at hl 3 rfl) ?_
          refine pR_0_pc (pc := 96) fx hw kw_1070 d_R_set_96 (fun σ_6 e9 H locs hw => ?_)
          replace h := nm_u h e9
          clear e9
          refine lv_goto (pc := 99) (tgt := 107) hx hb d_R_set_99 (by decide) ?_
          refine lv_iload_n (pc := 107) hx hb d_R_set_107 rfl (lv_at hl 0 rfl) ?_
          exact HR rfl d_R_set_108 h hw
      · replace h := h.1 c9
        refine lv_aload_n (pc := 81) hx hb d_R_set_81 rfl (lv_at hl 1 rfl) ?_
        refine lv_iload_n (pc := 82) hx hb d_R_set_82 rfl (lv_at hl 3 rfl) ?_
        refine pR_0_carry (pc := 83) fx hw kw_1069 d_R_set_83 (fun σ_7 e9 H locs hw => ?_)
        replace h := nm_u h e9
        clear e9
        refine lv_goto (pc := 86) (tgt := 107) hx hb d_R_set_86 (by decide) ?_
        refine lv_iload_n (pc := 107) hx hb d_R_set_107 rfl (lv_at hl 0 rfl) ?_
        exact HR rfl d_R_set_108 h hw
    · replace h := h.2 c9
      refine lv_aload_n (pc := 66) hx hb d_R_set_66 rfl (lv_at hl 1 rfl) ?_
      refine gR_0_accumulators (pc := 67) fx hw kw_1068 d_R_set_67 ?_
      refine lv_iload_n (pc := 70) hx hb d_R_set_70 rfl (lv_at hl 2 rfl) ?_
      refine lv_iload_n (pc := 71) hx hb d_R_set_71 rfl (lv_at hl 3 rfl) ?_
      refine asR_2 (pc := 72) fx hw h.1 d_R_set_72 (fun σ_8 e9 H locs hw => ?_)
      replace h := nm_u h.2 e9
      clear e9
      refine lv_goto (pc := 73) (tgt := 107) hx hb d_R_set_73 (by decide) ?_
      refine lv_iload_n (pc := 107) hx hb d_R_set_107 rfl (lv_at hl 0 rfl) ?_
      exact HR rfl d_R_set_108 h hw
  · replace h := h.2 c9
    refine lv_iconst (pc := 53) (v := 0) hx hb d_R_set_53 (by decide) ?_
    exact HR rfl d_R_set_54 h hw
set_option maxHeartbeats 4000000 in
set_option maxRecDepth 100000 in
theorem c_R_set_35 (hX : XT X) (fx : CallFix p m c b_R_set 4 s args GW RNR) {post : Int32 → SS → Prop} (HR : RetI p l e r_R_set s m args below meth c Q D vcl (tyl cA) (wR cA a) X A b_R_set .int post) {σ : SS} {x1 : Int32} {x2 : Int32} {s0 : Int32} {s1 : Int32} {s2 : Int32} {H : Heap} {locs : List Loc} {ls : Array Slot} (h : f_R_set_35 post σ x1 x2 s0 s1 s2) (hw : CX D vcl (tyl cA) (wR cA a σ) X A s H locs) (hl : lv_has ls 4 [(0, .ref (a 0)), (1, .int x1), (2, .int x2)]) : W p l e r_R_set s m args below meth c H locs 0 0 Q (F0 m 35 ls [.int s0, .int s1, .int s2, .ref (a 0)]) := by
  have hx := fx.1
  have hb := fx.2.1
  unfold f_R_set_35 at h
  refine cxSI (pc := 35) hX fx hw (c_R_within hX h) cw_R_72 rfl ⟨Nat.le_of_ble_eq_true rfl, Nat.le_of_ble_eq_true rfl⟩ hl.1 (Nat.le_of_ble_eq_true rfl) d_R_set_35 ⟨Nat.zero_le _, Nat.zero_le _⟩ (fun r_10 σ_9 H locs hw h => ?_)
  have zr_10 := h.1
  replace h := h.2
  refine lv_if_ne (pc := 38) (tgt := 45) hx hb d_R_set_38 (by decide) (fun c9 => ?_) (fun c9 => ?_)
  · replace h := h.2 c9
    refine lv_iconst (pc := 45) (v := 0) hx hb d_R_set_45 (by decide) ?_
    exact c_R_set_46 hX fx HR h hw (lv_sub hl [0, 1, 2] rfl)
  · replace h := h.1 c9
    refine lv_iconst (pc := 41) (v := 1) hx hb d_R_set_41 (by decide) ?_
    refine lv_goto (pc := 42) (tgt := 46) hx hb d_R_set_42 (by decide) ?_
    exact c_R_set_46 hX fx HR h hw (lv_sub hl [0, 1, 2] rfl)
set_option maxHeartbeats 4000000 in
set_option maxRecDepth 100000 in
theorem e_R_set (hX : XT X) (fx : CallFix p m c b_R_set 4 s args GW RNR) {post : Int32 → SS → Prop} (HR : RetI p l e r_R_set s m args below meth c Q D vcl (tyl cA) (wR cA a) X A b_R_set .int post) {σ : SS} {x1 : Int32} {x2 : Int32} {H : Heap} {locs : List Loc} {ls : Array Slot} (h : f_R_set post σ x1 x2) (hw : CX D vcl (tyl cA) (wR cA a σ) X A s H locs) (hl : lv_has ls 4 [(0, .ref (a 0)), (1, .int x1), (2, .int x2)]) : W p l e r_R_set s m args below meth c H locs 0 0 Q (F0 m 0 ls []) := by
  have hx := fx.1
  have hb := fx.2.1
  unfold f_R_set at h
  refine lv_aload_n (pc := 0) hx hb d_R_set_0 rfl (lv_at hl 0 rfl) ?_
  refine lv_iload_n (pc := 1) hx hb d_R_set_1 rfl (lv_at hl 1 rfl) ?_
  refine lv_iconst (pc := 2) (v := 0) hx hb d_R_set_2 (by decide) ?_
  refine lv_bipush (pc := 3) (v := 6) hx hb d_R_set_3 (by decide) ?_
  refine cxSI (pc := 5) hX fx hw (c_R_within hX h) cw_R_72 rfl ⟨Nat.le_of_ble_eq_true rfl, Nat.le_of_ble_eq_true rfl⟩ hl.1 (Nat.le_of_ble_eq_true rfl) d_R_set_5 ⟨Nat.zero_le _, Nat.zero_le _⟩ (fun r_12 σ_11 H locs hw h => ?_)
  have zr_12 := h.1
  replace h := h.2
  refine lv_if_eq (pc := 8) (tgt := 41) hx hb d_R_set_8 (by decide) (fun c9 => ?_) (fun c9 => ?_)
  · replace h := h.1 c9
    refine lv_iconst (pc := 41) (v := 1) hx hb d_R_set_41 (by decide) ?_
    refine lv_goto (pc := 42) (tgt := 46) hx hb d_R_set_42 (by decide) ?_
    exact c_R_set_46 hX fx HR h hw (lv_sub hl [0, 1, 2] rfl)
  · replace h := h.2 c9
    refine lv_iload_n (pc := 11) hx hb d_R_set_11 rfl (lv_at hl 2 rfl) ?_
    refine lv_iconst (pc := 12) (v := 0) hx hb d_R_set_12 (by decide) ?_
    refine lv_iload_n (pc := 13) hx hb d_R_set_13 rfl (lv_at hl 1 rfl) ?_
    refine lv_iconst (pc := 14) (v := 4) hx hb d_R_set_14 (by decide) ?_
    refine lv_icmp_ne (pc := 15) (tgt := 22) hx hb d_R_set_15 (by decide) (fun c9 => ?_) (fun c9 => ?_)
    · replace h := h.2 c9
      refine lv_iload_n (pc := 22) hx hb d_R_set_22 rfl (lv_at hl 1 rfl) ?_
      refine lv_iconst (pc := 23) (v := 5) hx hb d_R_set_23 (by decide) ?_
      refine lv_icmp_ne (pc := 24) (tgt := 33) hx hb d_R_set_24 (by decide) (fun c9 => ?_) (fun c9 => ?_)
      · replace h := h.2 c9
        refine lv_ldc (pc := 33) (v := 65535) hx hb fx.2.2.2.1 (fx.2.2.2.2 _ kw_1227) d_R_set_33 ?_
        exact c_R_set_35 hX fx HR h hw (lv_sub hl [0, 1, 2] rfl)
      · replace h := h.1 c9
        refine lv_sipush (pc := 27) (v := 32767) hx hb d_R_set_27 (by decide) ?_
        refine lv_goto (pc := 30) (tgt := 35) hx hb d_R_set_30 (by decide) ?_
        exact c_R_set_35 hX fx HR h hw (lv_sub hl [0, 1, 2] rfl)
    · replace h := h.1 c9
      refine lv_iconst (pc := 18) (v := 1) hx hb d_R_set_18 (by decide) ?_
      refine lv_goto (pc := 19) (tgt := 35) hx hb d_R_set_19 (by decide) ?_
      exact c_R_set_35 hX fx HR h hw (lv_sub hl [0, 1, 2] rfl)
end
theorem c_R_set {l : Launch} {D : va_G} {cA : Nat → ClassId} {a : Nat → Nat} {X : (Nat → Prop) → State → Prop} (hX : XT X) {σ : SS} {post : Int32 → SS → Prop} {x1 : Int32} {x2 : Int32} (h : f_R_set post σ x1 x2) : mI l y_R_set b_R_set 4 (some .int) 1 22 D vcl (tyl cA) (wR cA a) X σ [.ref (a 0), .int x1, .int x2] post := met_I (by decide) (Nat.le_of_ble_eq_true rfl) (fun p e s m args below meth c A Q fx HR H ls hw hl => e_R_set hX fx HR h hw hl)
abbrev r_R_register : Room := { frames := 1, cells := 0, slots := 0, locals := 22 }
def f_R_register_16 (post : Int32 → SS → Prop) (σ : SS) (x1 : Int32) (s0 : Int32) : Prop := f_R_fails (fun r_2 σ_1 => br (r_2 = 0) (br (7 ≤ x1) (br (x1 = 7) (br ((σ_1.1 3) = 0) (post 0 σ_1) (post 1 σ_1)) (br (x1 = 8) (post (σ_1.1 5) σ_1) (br (x1 = 9) (post (σ_1.1 6) σ_1) (post (σ_1.1 7) σ_1)))) (f_R_registerOf (fun r_4 σ_3 => post r_4 σ_3) σ_1 x1)) (post 0 σ_1)) σ s0 1
def f_R_register (post : Int32 → SS → Prop) (σ : SS) (x1 : Int32) : Prop := f_R_within (fun r_6 σ_5 => br (r_6 = 0) (f_R_register_16 post σ_5 x1 1) (f_R_register_16 post σ_5 x1 0)) σ x1 0 10
section
variable {p : Program} {l : Launch} {e : Env} {s : State} {m : MethodId} {args : Array Value} {below : List Frame} {meth : Method} {c : Code} {Q : State → Prop} {D : va_G} {cA : Nat → ClassId} {a : Nat → Nat} {X : (Nat → Prop) → State → Prop} {A : Nat → Prop}
set_option maxHeartbeats 4000000 in
set_option maxRecDepth 100000 in
theorem c_R_register_16 (hX : XT X) (fx : CallFix p m c b_R_register 2 s args GW RNR) {post : Int32 → SS → Prop} (HR : RetI p l e r_R_register s m args below meth c Q D vcl (tyl cA) (wR cA a) X A b_R_register .int post) {σ : SS} {x1 : Int32} {s0 : Int32} {H : Heap} {locs : List Loc} {ls : Array Slot} (h : f_R_register_16 post σ x1 s0) (hw : CX D vcl (tyl cA) (wR cA a σ) X A s H locs) (hl : lv_has ls 2 [(0, .ref (a 0)), (1, .int x1)]) : W p l e r_R_register s m args below meth c H locs 0 0 Q (F0 m 16 ls [.int s0, .ref (a 0)]) := by
  have hx := fx.1
  have hb := fx.2.1
  unfold f_R_register_16 at h
  refine lv_iconst (pc := 16) (v := 1) hx hb d_R_register_16 (by decide) ?_
  refine cxI (pc := 17) hX fx hw (c_R_fails hX h) cw_R_77 (rcR_0 hw) rfl ⟨Nat.le_of_ble_eq_true rfl, Nat.le_of_ble_eq_true rfl⟩ hl.1 (Nat.le_of_ble_eq_true rfl) d_R_register_17 ⟨Nat.zero_le _, Nat.zero_le _⟩ (fun r_2 σ_1 H locs hw h => ?_)
  have zr_2 := h.1
  replace h := h.2
  refine lv_if_eq (pc := 20) (tgt := 25) hx hb d_R_register_20 (by decide) (fun c9 => ?_) (fun c9 => ?_)
  · replace h := h.1 c9
    refine lv_iload_n (pc := 25) hx hb d_R_register_25 rfl (lv_at hl 1 rfl) ?_
    refine lv_bipush (pc := 26) (v := 7) hx hb d_R_register_26 (by decide) ?_
    refine lv_icmp_ge (pc := 28) (tgt := 37) hx hb d_R_register_28 (by decide) (fun c9 => ?_) (fun c9 => ?_)
    · replace h := h.1 c9
      refine lv_iload_n (pc := 37) hx hb d_R_register_37 rfl (lv_at hl 1 rfl) ?_
      refine lv_bipush (pc := 38) (v := 7) hx hb d_R_register_38 (by decide) ?_
      refine lv_icmp_ne (pc := 40) (tgt := 58) hx hb d_R_register_40 (by decide) (fun c9 => ?_) (fun c9 => ?_)
      · replace h := h.2 c9
        refine lv_iload_n (pc := 58) hx hb d_R_register_58 rfl (lv_at hl 1 rfl) ?_
        refine lv_bipush (pc := 59) (v := 8) hx hb d_R_register_59 (by decide) ?_
        refine lv_icmp_ne (pc := 61) (tgt := 71) hx hb d_R_register_61 (by decide) (fun c9 => ?_) (fun c9 => ?_)
        · replace h := h.2 c9
          refine lv_iload_n (pc := 71) hx hb d_R_register_71 rfl (lv_at hl 1 rfl) ?_
          refine lv_bipush (pc := 72) (v := 9) hx hb d_R_register_72 (by decide) ?_
          refine lv_icmp_ne (pc := 74) (tgt := 84) hx hb d_R_register_74 (by decide) (fun c9 => ?_) (fun c9 => ?_)
          · replace h := h.2 c9
            refine lv_aload_n (pc := 84) hx hb d_R_register_84 rfl (lv_at hl 0 rfl) ?_
            refine gR_0_interrupts (pc := 85) fx hw kw_1076 d_R_register_85 ?_
            exact HR rfl d_R_register_88 h hw
          · replace h := h.1 c9
            refine lv_aload_n (pc := 77) hx hb d_R_register_77 rfl (lv_at hl 0 rfl) ?_
            refine gR_0_done (pc := 78) fx hw kw_1075 d_R_register_78 ?_
            refine lv_goto (pc := 81) (tgt := 88) hx hb d_R_register_81 (by decide) ?_
            exact HR rfl d_R_register_88 h hw
        · replace h := h.1 c9
          refine lv_aload_n (pc := 64) hx hb d_R_register_64 rfl (lv_at hl 0 rfl) ?_
          refine gR_0_mask (pc := 65) fx hw kw_1074 d_R_register_65 ?_
          refine lv_goto (pc := 68) (tgt := 88) hx hb d_R_register_68 (by decide) ?_
          exact HR rfl d_R_register_88 h hw
      · replace h := h.1 c9
        refine lv_aload_n (pc := 43) hx hb d_R_register_43 rfl (lv_at hl 0 rfl) ?_
        refine gR_0_ion (pc := 44) fx hw kw_1072 d_R_register_44 ?_
        refine lv_if_eq (pc := 47) (tgt := 54) hx hb d_R_register_47 (by decide) (fun c9 => ?_) (fun c9 => ?_)
        · replace h := h.1 c9
          refine lv_iconst (pc := 54) (v := 0) hx hb d_R_register_54 (by decide) ?_
          refine lv_goto (pc := 55) (tgt := 88) hx hb d_R_register_55 (by decide) ?_
          exact HR rfl d_R_register_88 h hw
        · replace h := h.2 c9
          refine lv_iconst (pc := 50) (v := 1) hx hb d_R_register_50 (by decide) ?_
          refine lv_goto (pc := 51) (tgt := 88) hx hb d_R_register_51 (by decide) ?_
          exact HR rfl d_R_register_88 h hw
    · replace h := h.2 c9
      refine lv_aload_n (pc := 31) hx hb d_R_register_31 rfl (lv_at hl 0 rfl) ?_
      refine lv_iload_n (pc := 32) hx hb d_R_register_32 rfl (lv_at hl 1 rfl) ?_
      refine cxI (pc := 33) hX fx hw (c_R_registerOf hX h) cw_R_90 (rcR_0 hw) rfl ⟨Nat.le_of_ble_eq_true rfl, Nat.le_of_ble_eq_true rfl⟩ hl.1 (Nat.le_of_ble_eq_true rfl) d_R_register_33 ⟨Nat.zero_le _, Nat.zero_le _⟩ (fun r_4 σ_3 H locs hw h => ?_)
      exact HR rfl d_R_register_36 h hw
  · replace h := h.2 c9
    refine lv_iconst (pc := 23) (v := 0) hx hb d_R_register_23 (by decide) ?_
    exact HR rfl d_R_register_24 h hw
set_option maxHeartbeats 4000000 in
set_option maxRecDepth 100000 in
theorem e_R_register (hX : XT X) (fx : CallFix p m c b_R_register 2 s args GW RNR) {post : Int32 → SS → Prop} (HR : RetI p l e r_R_register s m args below meth c Q D vcl (tyl cA) (wR cA a) X A b_R_register .int post) {σ : SS} {x1 : Int32} {H : Heap} {locs : List Loc} {ls : Array Slot} (h : f_R_register post σ x1) (hw : CX D vcl (tyl cA) (wR cA a σ) X A s H locs) (hl : lv_has ls 2 [(0, .ref (a 0)), (1, .int x1)]) : W p l e r_R_register s m args below meth c H locs 0 0 Q (F0 m 0 ls []) := by
  have hx := fx.1
  have hb := fx.2.1
  unfold f_R_register at h
  refine lv_aload_n (pc := 0) hx hb d_R_register_0 rfl (lv_at hl 0 rfl) ?_
  refine lv_iload_n (pc := 1) hx hb d_R_register_1 rfl (lv_at hl 1 rfl) ?_
  refine lv_iconst (pc := 2) (v := 0) hx hb d_R_register_2 (by decide) ?_
  refine lv_bipush (pc := 3) (v := 10) hx hb d_R_register_3 (by decide) ?_
  refine cxSI (pc := 5) hX fx hw (c_R_within hX h) cw_R_72 rfl ⟨Nat.le_of_ble_eq_true rfl, Nat.le_of_ble_eq_true rfl⟩ hl.1 (Nat.le_of_ble_eq_true rfl) d_R_register_5 ⟨Nat.zero_le _, Nat.zero_le _⟩ (fun r_6 σ_5 H locs hw h => ?_)
  have zr_6 := h.1
  replace h := h.2
  refine lv_if_ne (pc := 8) (tgt := 15) hx hb d_R_register_8 (by decide) (fun c9 => ?_) (fun c9 => ?_)
  · replace h := h.2 c9
    refine lv_iconst (pc := 15) (v := 0) hx hb d_R_register_15 (by decide) ?_
    exact c_R_register_16 hX fx HR h hw (lv_sub hl [0, 1] rfl)
  · replace h := h.1 c9
    refine lv_iconst (pc := 11) (v := 1) hx hb d_R_register_11 (by decide) ?_
    refine lv_goto (pc := 12) (tgt := 16) hx hb d_R_register_12 (by decide) ?_
    exact c_R_register_16 hX fx HR h hw (lv_sub hl [0, 1] rfl)
end
theorem c_R_register {l : Launch} {D : va_G} {cA : Nat → ClassId} {a : Nat → Nat} {X : (Nat → Prop) → State → Prop} (hX : XT X) {σ : SS} {post : Int32 → SS → Prop} {x1 : Int32} (h : f_R_register post σ x1) : mI l y_R_register b_R_register 2 (some .int) 1 22 D vcl (tyl cA) (wR cA a) X σ [.ref (a 0), .int x1] post := met_I (by decide) (Nat.le_of_ble_eq_true rfl) (fun p e s m args below meth c A Q fx HR H ls hw hl => e_R_register hX fx HR h hw hl)
abbrev r_R_device : Room := { frames := 1, cells := 0, slots := 0, locals := 22 }
def f_R_device_26 (post : Int32 → SS → Prop) (σ : SS) (x1 : Int32) (x2 : Int32) (s0 : Int32) : Prop := f_R_fails (fun r_2 σ_1 => br (r_2 = 0) (br (x2 = 0) (vp_in (x1 - 8) 3 ∧ post (σ_1.2.1 3 (x1 - 8).toNatClampNeg) σ_1) (br (x2 = 1) (vp_in (x1 - 8) 3 ∧ br ((σ_1.2.1 4 (x1 - 8).toNatClampNeg) = 0) (post 0 σ_1) (post 1 σ_1)) (vp_in (x1 - 8) 3 ∧ br ((σ_1.2.1 5 (x1 - 8).toNatClampNeg) = 0) (post 0 σ_1) (post 1 σ_1)))) (post 0 σ_1)) σ s0 1
def f_R_device (post : Int32 → SS → Prop) (σ : SS) (x1 : Int32) (x2 : Int32) : Prop := f_R_within (fun r_4 σ_3 => br (r_4 = 0) (f_R_device_26 post σ_3 x1 x2 1) (f_R_within (fun r_6 σ_5 => br (r_6 = 0) (f_R_device_26 post σ_5 x1 x2 1) (f_R_device_26 post σ_5 x1 x2 0)) σ_3 x2 0 2)) σ x1 8 10
section
variable {p : Program} {l : Launch} {e : Env} {s : State} {m : MethodId} {args : Array Value} {below : List Frame} {meth : Method} {c : Code} {Q : State → Prop} {D : va_G} {cA : Nat → ClassId} {a : Nat → Nat} {X : (Nat → Prop) → State → Prop} {A : Nat → Prop}
set_option maxHeartbeats 4000000 in
set_option maxRecDepth 100000 in
theorem c_R_device_26 (hX : XT X) (fx : CallFix p m c b_R_device 3 s args GW RNR) {post : Int32 → SS → Prop} (HR : RetI p l e r_R_device s m args below meth c Q D vcl (tyl cA) (wR cA a) X A b_R_device .int post) {σ : SS} {x1 : Int32} {x2 : Int32} {s0 : Int32} {H : Heap} {locs : List Loc} {ls : Array Slot} (h : f_R_device_26 post σ x1 x2 s0) (hw : CX D vcl (tyl cA) (wR cA a σ) X A s H locs) (hl : lv_has ls 3 [(0, .ref (a 0)), (1, .int x1), (2, .int x2)]) : W p l e r_R_device s m args below meth c H locs 0 0 Q (F0 m 26 ls [.int s0, .ref (a 0)]) := by
  have hx := fx.1
  have hb := fx.2.1
  unfold f_R_device_26 at h
  refine lv_iconst (pc := 26) (v := 1) hx hb d_R_device_26 (by decide) ?_
  refine cxI (pc := 27) hX fx hw (c_R_fails hX h) cw_R_77 (rcR_0 hw) rfl ⟨Nat.le_of_ble_eq_true rfl, Nat.le_of_ble_eq_true rfl⟩ hl.1 (Nat.le_of_ble_eq_true rfl) d_R_device_27 ⟨Nat.zero_le _, Nat.zero_le _⟩ (fun r_2 σ_1 H locs hw h => ?_)
  have zr_2 := h.1
  replace h := h.2
  refine lv_if_eq (pc := 30) (tgt := 35) hx hb d_R_device_30 (by decide) (fun c9 => ?_) (fun c9 => ?_)
  · replace h := h.1 c9
    refine lv_iload_n (pc := 35) hx hb d_R_device_35 rfl (lv_at hl 2 rfl) ?_
    refine lv_if_ne (pc := 36) (tgt := 51) hx hb d_R_device_36 (by decide) (fun c9 => ?_) (fun c9 => ?_)
    · replace h := h.2 c9
      refine lv_iload_n (pc := 51) hx hb d_R_device_51 rfl (lv_at hl 2 rfl) ?_
      refine lv_iconst (pc := 52) (v := 1) hx hb d_R_device_52 (by decide) ?_
      refine lv_icmp_ne (pc := 53) (tgt := 71) hx hb d_R_device_53 (by decide) (fun c9 => ?_) (fun c9 => ?_)
      · replace h := h.2 c9
        refine lv_aload_n (pc := 71) hx hb d_R_device_71 rfl (lv_at hl 0 rfl) ?_
        refine gR_0_ready (pc := 72) fx hw kw_1080 d_R_device_72 ?_
        refine lv_iload_n (pc := 75) hx hb d_R_device_75 rfl (lv_at hl 1 rfl) ?_
        refine lv_bipush (pc := 76) (v := 8) hx hb d_R_device_76 (by decide) ?_
        refine lv_isub (pc := 78) hx hb d_R_device_78 ?_
        refine alR_5 (pc := 79) fx hw h.1 d_R_device_79 ?_
        replace h := h.2
        refine lv_if_eq (pc := 80) (tgt := 87) hx hb d_R_device_80 (by decide) (fun c9 => ?_) (fun c9 => ?_)
        · replace h := h.1 c9
          refine lv_iconst (pc := 87) (v := 0) hx hb d_R_device_87 (by decide) ?_
          exact HR rfl d_R_device_88 h hw
        · replace h := h.2 c9
          refine lv_iconst (pc := 83) (v := 1) hx hb d_R_device_83 (by decide) ?_
          refine lv_goto (pc := 84) (tgt := 88) hx hb d_R_device_84 (by decide) ?_
          exact HR rfl d_R_device_88 h hw
      · replace h := h.1 c9
        refine lv_aload_n (pc := 56) hx hb d_R_device_56 rfl (lv_at hl 0 rfl) ?_
        refine gR_0_busy (pc := 57) fx hw kw_1079 d_R_device_57 ?_
        refine lv_iload_n (pc := 60) hx hb d_R_device_60 rfl (lv_at hl 1 rfl) ?_
        refine lv_bipush (pc := 61) (v := 8) hx hb d_R_device_61 (by decide) ?_
        refine lv_isub (pc := 63) hx hb d_R_device_63 ?_
        refine alR_4 (pc := 64) fx hw h.1 d_R_device_64 ?_
        replace h := h.2
        refine lv_if_eq (pc := 65) (tgt := 87) hx hb d_R_device_65 (by decide) (fun c9 => ?_) (fun c9 => ?_)
        · replace h := h.1 c9
          refine lv_iconst (pc := 87) (v := 0) hx hb d_R_device_87 (by decide) ?_
          exact HR rfl d_R_device_88 h hw
        · replace h := h.2 c9
          refine lv_goto (pc := 68) (tgt := 83) hx hb d_R_device_68 (by decide) ?_
          refine lv_iconst (pc := 83) (v := 1) hx hb d_R_device_83 (by decide) ?_
          refine lv_goto (pc := 84) (tgt := 88) hx hb d_R_device_84 (by decide) ?_
          exact HR rfl d_R_device_88 h hw
    · replace h := h.1 c9
      refine lv_aload_n (pc := 39) hx hb d_R_device_39 rfl (lv_at hl 0 rfl) ?_
      refine gR_0_words (pc := 40) fx hw kw_1078 d_R_device_40 ?_
      refine lv_iload_n (pc := 43) hx hb d_R_device_43 rfl (lv_at hl 1 rfl) ?_
      refine lv_bipush (pc := 44) (v := 8) hx hb d_R_device_44 (by decide) ?_
      refine lv_isub (pc := 46) hx hb d_R_device_46 ?_
      refine alR_3 (pc := 47) fx hw h.1 d_R_device_47 ?_
      replace h := h.2
      refine lv_goto (pc := 48) (tgt := 88) hx hb d_R_device_48 (by decide) ?_
      exact HR rfl d_R_device_88 h hw
  · replace h := h.2 c9
    refine lv_iconst (pc := 33) (v := 0) hx hb d_R_device_33 (by decide) ?_
    exact HR rfl d_R_device_34 h hw
set_option maxHeartbeats 4000000 in
set_option maxRecDepth 100000 in
theorem e_R_device (hX : XT X) (fx : CallFix p m c b_R_device 3 s args GW RNR) {post : Int32 → SS → Prop} (HR : RetI p l e r_R_device s m args below meth c Q D vcl (tyl cA) (wR cA a) X A b_R_device .int post) {σ : SS} {x1 : Int32} {x2 : Int32} {H : Heap} {locs : List Loc} {ls : Array Slot} (h : f_R_device post σ x1 x2) (hw : CX D vcl (tyl cA) (wR cA a σ) X A s H locs) (hl : lv_has ls 3 [(0, .ref (a 0)), (1, .int x1), (2, .int x2)]) : W p l e r_R_device s m args below meth c H locs 0 0 Q (F0 m 0 ls []) := by
  have hx := fx.1
  have hb := fx.2.1
  unfold f_R_device at h
  refine lv_aload_n (pc := 0) hx hb d_R_device_0 rfl (lv_at hl 0 rfl) ?_
  refine lv_iload_n (pc := 1) hx hb d_R_device_1 rfl (lv_at hl 1 rfl) ?_
  refine lv_bipush (pc := 2) (v := 8) hx hb d_R_device_2 (by decide) ?_
  refine lv_bipush (pc := 4) (v := 10) hx hb d_R_device_4 (by decide) ?_
  refine cxSI (pc := 6) hX fx hw (c_R_within hX h) cw_R_72 rfl ⟨Nat.le_of_ble_eq_true rfl, Nat.le_of_ble_eq_true rfl⟩ hl.1 (Nat.le_of_ble_eq_true rfl) d_R_device_6 ⟨Nat.zero_le _, Nat.zero_le _⟩ (fun r_4 σ_3 H locs hw h => ?_)
  have zr_4 := h.1
  replace h := h.2
  refine lv_if_eq (pc := 9) (tgt := 21) hx hb d_R_device_9 (by decide) (fun c9 => ?_) (fun c9 => ?_)
  · replace h := h.1 c9
    refine lv_iconst (pc := 21) (v := 1) hx hb d_R_device_21 (by decide) ?_
    refine lv_goto (pc := 22) (tgt := 26) hx hb d_R_device_22 (by decide) ?_
    exact c_R_device_26 hX fx HR h hw (lv_sub hl [0, 1, 2] rfl)
  · replace h := h.2 c9
    refine lv_iload_n (pc := 12) hx hb d_R_device_12 rfl (lv_at hl 2 rfl) ?_
    refine lv_iconst (pc := 13) (v := 0) hx hb d_R_device_13 (by decide) ?_
    refine lv_iconst (pc := 14) (v := 2) hx hb d_R_device_14 (by decide) ?_
    refine cxSI (pc := 15) hX fx hw (c_R_within hX h) cw_R_72 rfl ⟨Nat.le_of_ble_eq_true rfl, Nat.le_of_ble_eq_true rfl⟩ hl.1 (Nat.le_of_ble_eq_true rfl) d_R_device_15 ⟨Nat.zero_le _, Nat.zero_le _⟩ (fun r_6 σ_5 H locs hw h => ?_)
    have zr_6 := h.1
    replace h := h.2
    refine lv_if_ne (pc := 18) (tgt := 25) hx hb d_R_device_18 (by decide) (fun c9 => ?_) (fun c9 => ?_)
    · replace h := h.2 c9
      refine lv_iconst (pc := 25) (v := 0) hx hb d_R_device_25 (by decide) ?_
      exact c_R_device_26 hX fx HR h hw (lv_sub hl [0, 1, 2] rfl)
    · replace h := h.1 c9
      refine lv_iconst (pc := 21) (v := 1) hx hb d_R_device_21 (by decide) ?_
      refine lv_goto (pc := 22) (tgt := 26) hx hb d_R_device_22 (by decide) ?_
      exact c_R_device_26 hX fx HR h hw (lv_sub hl [0, 1, 2] rfl)
end
theorem c_R_device {l : Launch} {D : va_G} {cA : Nat → ClassId} {a : Nat → Nat} {X : (Nat → Prop) → State → Prop} (hX : XT X) {σ : SS} {post : Int32 → SS → Prop} {x1 : Int32} {x2 : Int32} (h : f_R_device post σ x1 x2) : mI l y_R_device b_R_device 3 (some .int) 1 22 D vcl (tyl cA) (wR cA a) X σ [.ref (a 0), .int x1, .int x2] post := met_I (by decide) (Nat.le_of_ble_eq_true rfl) (fun p e s m args below meth c A Q fx HR H ls hw hl => e_R_device hX fx HR h hw hl)
abbrev r_R_tape : Room := { frames := 1, cells := 0, slots := 0, locals := 22 }
def f_R_tape_40 (post : Int32 → SS → Prop) (σ : SS) (x1 : Int32) (s0 : Int32) : Prop := f_R_fails (fun r_2 σ_1 => br (r_2 = 0) (vp_in (σ_1.1 9) 500 ∧ nm (sA σ_1 7 (σ_1.1 9).toNatClampNeg x1) fun σ_3 => nm (sI σ_3 9 ((σ_3.1 9) + 1)) fun σ_4 => post (σ_4.1 9) σ_4) (post 0 σ_1)) σ s0 2
def f_R_tape_17 (post : Int32 → SS → Prop) (σ : SS) (x1 : Int32) (s0 : Int32) : Prop := f_R_fails (fun r_6 σ_5 => br (r_6 = 0) (br ((σ_5.1 9) = 500) (f_R_tape_40 post σ_5 x1 1) (f_R_tape_40 post σ_5 x1 0)) (post 0 σ_5)) σ s0 1
def f_R_tape (post : Int32 → SS → Prop) (σ : SS) (x1 : Int32) : Prop := f_R_within (fun r_8 σ_7 => br (r_8 = 0) (f_R_tape_17 post σ_7 x1 1) (f_R_tape_17 post σ_7 x1 0)) σ x1 0 255
section
variable {p : Program} {l : Launch} {e : Env} {s : State} {m : MethodId} {args : Array Value} {below : List Frame} {meth : Method} {c : Code} {Q : State → Prop} {D : va_G} {cA : Nat → ClassId} {a : Nat → Nat} {X : (Nat → Prop) → State → Prop} {A : Nat → Prop}
set_option maxHeartbeats 4000000 in
set_option maxRecDepth 100000 in
theorem c_R_tape_40 (hX : XT X) (fx : CallFix p m c b_R_tape 2 s args GW RNR) {post : Int32 → SS → Prop} (HR : RetI p l e r_R_tape s m args below meth c Q D vcl (tyl cA) (wR cA a) X A b_R_tape .int post) {σ : SS} {x1 : Int32} {s0 : Int32} {H : Heap} {locs : List Loc} {ls : Array Slot} (h : f_R_tape_40 post σ x1 s0) (hw : CX D vcl (tyl cA) (wR cA a σ) X A s H locs) (hl : lv_has ls 2 [(0, .ref (a 0)), (1, .int x1)]) : W p l e r_R_tape s m args below meth c H locs 0 0 Q (F0 m 40 ls [.int s0, .ref (a 0)]) := by
  have hx := fx.1
  have hb := fx.2.1
  unfold f_R_tape_40 at h
  refine lv_iconst (pc := 40) (v := 2) hx hb d_R_tape_40 (by decide) ?_
  refine cxI (pc := 41) hX fx hw (c_R_fails hX h) cw_R_77 (rcR_0 hw) rfl ⟨Nat.le_of_ble_eq_true rfl, Nat.le_of_ble_eq_true rfl⟩ hl.1 (Nat.le_of_ble_eq_true rfl) d_R_tape_41 ⟨Nat.zero_le _, Nat.zero_le _⟩ (fun r_2 σ_1 H locs hw h => ?_)
  have zr_2 := h.1
  replace h := h.2
  refine lv_if_eq (pc := 44) (tgt := 49) hx hb d_R_tape_44 (by decide) (fun c9 => ?_) (fun c9 => ?_)
  · replace h := h.1 c9
    refine lv_aload_n (pc := 49) hx hb d_R_tape_49 rfl (lv_at hl 0 rfl) ?_
    refine gR_0_reel (pc := 50) fx hw kw_1082 d_R_tape_50 ?_
    refine lv_aload_n (pc := 53) hx hb d_R_tape_53 rfl (lv_at hl 0 rfl) ?_
    refine gR_0_reelSize (pc := 54) fx hw kw_1083 d_R_tape_54 ?_
    refine lv_iload_n (pc := 57) hx hb d_R_tape_57 rfl (lv_at hl 1 rfl) ?_
    refine asR_7 (pc := 58) fx hw h.1 d_R_tape_58 (fun σ_3 e9 H locs hw => ?_)
    replace h := nm_u h.2 e9
    clear e9
    refine lv_aload_n (pc := 59) hx hb d_R_tape_59 rfl (lv_at hl 0 rfl) ?_
    refine lv_dup (pc := 60) hx hb d_R_tape_60 rfl ?_
    refine gR_0_reelSize (pc := 61) fx hw kw_1083 d_R_tape_61 ?_
    refine lv_iconst (pc := 64) (v := 1) hx hb d_R_tape_64 (by decide) ?_
    refine lv_iadd (pc := 65) hx hb d_R_tape_65 ?_
    refine pR_0_reelSize (pc := 66) fx hw kw_1083 d_R_tape_66 (fun σ_4 e9 H locs hw => ?_)
    replace h := nm_u h e9
    clear e9
    refine lv_aload_n (pc := 69) hx hb d_R_tape_69 rfl (lv_at hl 0 rfl) ?_
    refine gR_0_reelSize (pc := 70) fx hw kw_1083 d_R_tape_70 ?_
    exact HR rfl d_R_tape_73 h hw
  · replace h := h.2 c9
    refine lv_iconst (pc := 47) (v := 0) hx hb d_R_tape_47 (by decide) ?_
    exact HR rfl d_R_tape_48 h hw
set_option maxHeartbeats 4000000 in
set_option maxRecDepth 100000 in
theorem c_R_tape_17 (hX : XT X) (fx : CallFix p m c b_R_tape 2 s args GW RNR) {post : Int32 → SS → Prop} (HR : RetI p l e r_R_tape s m args below meth c Q D vcl (tyl cA) (wR cA a) X A b_R_tape .int post) {σ : SS} {x1 : Int32} {s0 : Int32} {H : Heap} {locs : List Loc} {ls : Array Slot} (h : f_R_tape_17 post σ x1 s0) (hw : CX D vcl (tyl cA) (wR cA a σ) X A s H locs) (hl : lv_has ls 2 [(0, .ref (a 0)), (1, .int x1)]) : W p l e r_R_tape s m args below meth c H locs 0 0 Q (F0 m 17 ls [.int s0, .ref (a 0)]) := by
  have hx := fx.1
  have hb := fx.2.1
  unfold f_R_tape_17 at h
  refine lv_iconst (pc := 17) (v := 1) hx hb d_R_tape_17 (by decide) ?_
  refine cxI (pc := 18) hX fx hw (c_R_fails hX h) cw_R_77 (rcR_0 hw) rfl ⟨Nat.le_of_ble_eq_true rfl, Nat.le_of_ble_eq_true rfl⟩ hl.1 (Nat.le_of_ble_eq_true rfl) d_R_tape_18 ⟨Nat.zero_le _, Nat.zero_le _⟩ (fun r_6 σ_5 H locs hw h => ?_)
  have zr_6 := h.1
  replace h := h.2
  refine lv_if_ne (pc := 21) (tgt := 47) hx hb d_R_tape_21 (by decide) (fun c9 => ?_) (fun c9 => ?_)
  · replace h := h.2 c9
    refine lv_iconst (pc := 47) (v := 0) hx hb d_R_tape_47 (by decide) ?_
    exact HR rfl d_R_tape_48 h hw
  · replace h := h.1 c9
    refine lv_aload_n (pc := 24) hx hb d_R_tape_24 rfl (lv_at hl 0 rfl) ?_
    refine lv_aload_n (pc := 25) hx hb d_R_tape_25 rfl (lv_at hl 0 rfl) ?_
    refine gR_0_reelSize (pc := 26) fx hw kw_1083 d_R_tape_26 ?_
    refine lv_sipush (pc := 29) (v := 500) hx hb d_R_tape_29 (by decide) ?_
    refine lv_icmp_ne (pc := 32) (tgt := 39) hx hb d_R_tape_32 (by decide) (fun c9 => ?_) (fun c9 => ?_)
    · replace h := h.2 c9
      refine lv_iconst (pc := 39) (v := 0) hx hb d_R_tape_39 (by decide) ?_
      exact c_R_tape_40 hX fx HR h hw (lv_sub hl [0, 1] rfl)
    · replace h := h.1 c9
      refine lv_iconst (pc := 35) (v := 1) hx hb d_R_tape_35 (by decide) ?_
      refine lv_goto (pc := 36) (tgt := 40) hx hb d_R_tape_36 (by decide) ?_
      exact c_R_tape_40 hX fx HR h hw (lv_sub hl [0, 1] rfl)
set_option maxHeartbeats 4000000 in
set_option maxRecDepth 100000 in
theorem e_R_tape (hX : XT X) (fx : CallFix p m c b_R_tape 2 s args GW RNR) {post : Int32 → SS → Prop} (HR : RetI p l e r_R_tape s m args below meth c Q D vcl (tyl cA) (wR cA a) X A b_R_tape .int post) {σ : SS} {x1 : Int32} {H : Heap} {locs : List Loc} {ls : Array Slot} (h : f_R_tape post σ x1) (hw : CX D vcl (tyl cA) (wR cA a σ) X A s H locs) (hl : lv_has ls 2 [(0, .ref (a 0)), (1, .int x1)]) : W p l e r_R_tape s m args below meth c H locs 0 0 Q (F0 m 0 ls []) := by
  have hx := fx.1
  have hb := fx.2.1
  unfold f_R_tape at h
  refine lv_aload_n (pc := 0) hx hb d_R_tape_0 rfl (lv_at hl 0 rfl) ?_
  refine lv_iload_n (pc := 1) hx hb d_R_tape_1 rfl (lv_at hl 1 rfl) ?_
  refine lv_iconst (pc := 2) (v := 0) hx hb d_R_tape_2 (by decide) ?_
  refine lv_sipush (pc := 3) (v := 255) hx hb d_R_tape_3 (by decide) ?_
  refine cxSI (pc := 6) hX fx hw (c_R_within hX h) cw_R_72 rfl ⟨Nat.le_of_ble_eq_true rfl, Nat.le_of_ble_eq_true rfl⟩ hl.1 (Nat.le_of_ble_eq_true rfl) d_R_tape_6 ⟨Nat.zero_le _, Nat.zero_le _⟩ (fun r_8 σ_7 H locs hw h => ?_)
  have zr_8 := h.1
  replace h := h.2
  refine lv_if_ne (pc := 9) (tgt := 16) hx hb d_R_tape_9 (by decide) (fun c9 => ?_) (fun c9 => ?_)
  · replace h := h.2 c9
    refine lv_iconst (pc := 16) (v := 0) hx hb d_R_tape_16 (by decide) ?_
    exact c_R_tape_17 hX fx HR h hw (lv_sub hl [0, 1] rfl)
  · replace h := h.1 c9
    refine lv_iconst (pc := 12) (v := 1) hx hb d_R_tape_12 (by decide) ?_
    refine lv_goto (pc := 13) (tgt := 17) hx hb d_R_tape_13 (by decide) ?_
    exact c_R_tape_17 hX fx HR h hw (lv_sub hl [0, 1] rfl)
end
theorem c_R_tape {l : Launch} {D : va_G} {cA : Nat → ClassId} {a : Nat → Nat} {X : (Nat → Prop) → State → Prop} (hX : XT X) {σ : SS} {post : Int32 → SS → Prop} {x1 : Int32} (h : f_R_tape post σ x1) : mI l y_R_tape b_R_tape 2 (some .int) 1 22 D vcl (tyl cA) (wR cA a) X σ [.ref (a 0), .int x1] post := met_I (by decide) (Nat.le_of_ble_eq_true rfl) (fun p e s m args below meth c A Q fx HR H ls hw hl => e_R_tape hX fx HR h hw hl)
abbrev r_R_printed : Room := { frames := 0, cells := 0, slots := 0, locals := 0 }
def f_R_printed (post : Int32 → SS → Prop) (σ : SS) (x1 : Int32) : Prop := nm (sI σ 29 0) fun σ_1 => br (x1 < 0) (post (-1) σ_1) (br ((σ_1.1 10) ≤ x1) (post (-1) σ_1) (br (1000 ≤ x1) (post (-1) σ_1) (vp_in x1 1000 ∧ post (σ_1.2.1 8 x1.toNatClampNeg) σ_1)))
section
variable {p : Program} {l : Launch} {e : Env} {s : State} {m : MethodId} {args : Array Value} {below : List Frame} {meth : Method} {c : Code} {Q : State → Prop} {D : va_G} {cA : Nat → ClassId} {a : Nat → Nat} {X : (Nat → Prop) → State → Prop} {A : Nat → Prop}
set_option maxHeartbeats 4000000 in
set_option maxRecDepth 100000 in
theorem e_R_printed (hX : XT X) (fx : CallFix p m c b_R_printed 2 s args GW RNR) {post : Int32 → SS → Prop} (HR : RetI p l e r_R_printed s m args below meth c Q D vcl (tyl cA) (wR cA a) X A b_R_printed .int post) {σ : SS} {x1 : Int32} {H : Heap} {locs : List Loc} {ls : Array Slot} (h : f_R_printed post σ x1) (hw : CX D vcl (tyl cA) (wR cA a σ) X A s H locs) (hl : lv_has ls 2 [(0, .ref (a 0)), (1, .int x1)]) : W p l e r_R_printed s m args below meth c H locs 0 0 Q (F0 m 0 ls []) := by
  have hx := fx.1
  have hb := fx.2.1
  unfold f_R_printed at h
  refine lv_aload_n (pc := 0) hx hb d_R_printed_0 rfl (lv_at hl 0 rfl) ?_
  refine lv_iconst (pc := 1) (v := 0) hx hb d_R_printed_1 (by decide) ?_
  refine pR_0_thrown (pc := 2) fx hw kw_1115 d_R_printed_2 (fun σ_1 e9 H locs hw => ?_)
  replace h := nm_u h e9
  clear e9
  refine lv_iload_n (pc := 5) hx hb d_R_printed_5 rfl (lv_at hl 1 rfl) ?_
  refine lv_if_lt (pc := 6) (tgt := 33) hx hb d_R_printed_6 (by decide) (fun c9 => ?_) (fun c9 => ?_)
  · replace h := h.1 c9
    refine lv_iconst (pc := 33) (v := (-1)) hx hb d_R_printed_33 (by decide) ?_
    exact HR rfl d_R_printed_34 h hw
  · replace h := h.2 c9
    refine lv_iload_n (pc := 9) hx hb d_R_printed_9 rfl (lv_at hl 1 rfl) ?_
    refine lv_aload_n (pc := 10) hx hb d_R_printed_10 rfl (lv_at hl 0 rfl) ?_
    refine gR_0_sheetSize (pc := 11) fx hw kw_1085 d_R_printed_11 ?_
    refine lv_icmp_ge (pc := 14) (tgt := 33) hx hb d_R_printed_14 (by decide) (fun c9 => ?_) (fun c9 => ?_)
    · replace h := h.1 c9
      refine lv_iconst (pc := 33) (v := (-1)) hx hb d_R_printed_33 (by decide) ?_
      exact HR rfl d_R_printed_34 h hw
    · replace h := h.2 c9
      refine lv_iload_n (pc := 17) hx hb d_R_printed_17 rfl (lv_at hl 1 rfl) ?_
      refine lv_sipush (pc := 18) (v := 1000) hx hb d_R_printed_18 (by decide) ?_
      refine lv_icmp_ge (pc := 21) (tgt := 33) hx hb d_R_printed_21 (by decide) (fun c9 => ?_) (fun c9 => ?_)
      · replace h := h.1 c9
        refine lv_iconst (pc := 33) (v := (-1)) hx hb d_R_printed_33 (by decide) ?_
        exact HR rfl d_R_printed_34 h hw
      · replace h := h.2 c9
        refine lv_aload_n (pc := 24) hx hb d_R_printed_24 rfl (lv_at hl 0 rfl) ?_
        refine gR_0_sheet (pc := 25) fx hw kw_1084 d_R_printed_25 ?_
        refine lv_iload_n (pc := 28) hx hb d_R_printed_28 rfl (lv_at hl 1 rfl) ?_
        refine alR_8 (pc := 29) fx hw h.1 d_R_printed_29 ?_
        replace h := h.2
        refine lv_goto (pc := 30) (tgt := 34) hx hb d_R_printed_30 (by decide) ?_
        exact HR rfl d_R_printed_34 h hw
end
theorem c_R_printed {l : Launch} {D : va_G} {cA : Nat → ClassId} {a : Nat → Nat} {X : (Nat → Prop) → State → Prop} (hX : XT X) {σ : SS} {post : Int32 → SS → Prop} {x1 : Int32} (h : f_R_printed post σ x1) : mI l y_R_printed b_R_printed 2 (some .int) 0 0 D vcl (tyl cA) (wR cA a) X σ [.ref (a 0), .int x1] post := met_I (by decide) (Nat.le_of_ble_eq_true rfl) (fun p e s m args below meth c A Q fx HR H ls hw hl => e_R_printed hX fx HR h hw hl)
abbrev r_R_tear : Room := { frames := 0, cells := 0, slots := 0, locals := 0 }
def f_R_tear (post : Int32 → SS → Prop) (σ : SS) : Prop := nm (sI σ 29 0) fun σ_1 => nm (σ_1.1 10) fun x1_2 => nm (sI σ_1 10 0) fun σ_3 => post x1_2 σ_3
section
variable {p : Program} {l : Launch} {e : Env} {s : State} {m : MethodId} {args : Array Value} {below : List Frame} {meth : Method} {c : Code} {Q : State → Prop} {D : va_G} {cA : Nat → ClassId} {a : Nat → Nat} {X : (Nat → Prop) → State → Prop} {A : Nat → Prop}
set_option maxHeartbeats 4000000 in
set_option maxRecDepth 100000 in
theorem e_R_tear (hX : XT X) (fx : CallFix p m c b_R_tear 2 s args GW RNR) {post : Int32 → SS → Prop} (HR : RetI p l e r_R_tear s m args below meth c Q D vcl (tyl cA) (wR cA a) X A b_R_tear .int post) {σ : SS} {H : Heap} {locs : List Loc} {ls : Array Slot} (h : f_R_tear post σ) (hw : CX D vcl (tyl cA) (wR cA a σ) X A s H locs) (hl : lv_has ls 2 [(0, .ref (a 0))]) : W p l e r_R_tear s m args below meth c H locs 0 0 Q (F0 m 0 ls []) := by
  have hx := fx.1
  have hb := fx.2.1
  unfold f_R_tear at h
  refine lv_aload_n (pc := 0) hx hb d_R_tear_0 rfl (lv_at hl 0 rfl) ?_
  refine lv_iconst (pc := 1) (v := 0) hx hb d_R_tear_1 (by decide) ?_
  refine pR_0_thrown (pc := 2) fx hw kw_1115 d_R_tear_2 (fun σ_1 e9 H locs hw => ?_)
  replace h := nm_u h e9
  clear e9
  refine lv_aload_n (pc := 5) hx hb d_R_tear_5 rfl (lv_at hl 0 rfl) ?_
  refine gR_0_sheetSize (pc := 6) fx hw kw_1085 d_R_tear_6 ?_
  refine lv_topi (fun x1_2 e9 => ?_)
  replace h := nm_u h e9
  clear e9
  refine lv_istore_n (pc := 9) (lv' := [(1, .int x1_2), (0, .ref (a 0))]) hx hb d_R_tear_9 rfl hl (by decide) rfl (fun ls hl => ?_)
  refine lv_aload_n (pc := 10) hx hb d_R_tear_10 rfl (lv_at hl 1 rfl) ?_
  refine lv_iconst (pc := 11) (v := 0) hx hb d_R_tear_11 (by decide) ?_
  refine pR_0_sheetSize (pc := 12) fx hw kw_1085 d_R_tear_12 (fun σ_3 e9 H locs hw => ?_)
  replace h := nm_u h e9
  clear e9
  refine lv_iload_n (pc := 15) hx hb d_R_tear_15 rfl (lv_at hl 0 rfl) ?_
  exact HR rfl d_R_tear_16 h hw
end
theorem c_R_tear {l : Launch} {D : va_G} {cA : Nat → ClassId} {a : Nat → Nat} {X : (Nat → Prop) → State → Prop} (hX : XT X) {σ : SS} {post : Int32 → SS → Prop} (h : f_R_tear post σ) : mI l y_R_tear b_R_tear 2 (some .int) 0 0 D vcl (tyl cA) (wR cA a) X σ [.ref (a 0)] post := met_I (by decide) (Nat.le_of_ble_eq_true rfl) (fun p e s m args below meth c A Q fx HR H ls hw hl => e_R_tear hX fx HR h hw hl)
abbrev r_R_reset : Room := { frames := 0, cells := 0, slots := 0, locals := 0 }
def f_R_reset_67 (post : SS → Prop) : Nat → SS → Int32 → Prop
  | 0, _, _ => False
  | n + 1, σ, x1 => br (3 ≤ x1) (nm (sI σ 9 0) fun σ_1 => nm (sI σ_1 10 0) fun σ_2 => nm (sI σ_2 11 0) fun σ_3 => nm (sI σ_3 12 0) fun σ_4 => nm (sI σ_4 13 0) fun σ_5 => nm (sI σ_5 14 0) fun σ_6 => nm (sI σ_6 17 0) fun σ_7 => nm (sI σ_7 28 0) fun σ_8 => post σ_8) (vp_in x1 3 ∧ nm (sA σ 3 x1.toNatClampNeg 0) fun σ_9 => vp_in x1 3 ∧ nm (sA σ_9 4 x1.toNatClampNeg (vp_nar .boolean 0)) fun σ_10 => vp_in x1 3 ∧ nm (sA σ_10 5 x1.toNatClampNeg (vp_nar .boolean 0)) fun σ_11 => vp_in x1 3 ∧ nm (sA σ_11 6 x1.toNatClampNeg 0) fun σ_12 => nm (x1 + 1) fun x1_13 => f_R_reset_67 post n σ_12 x1_13)
def f_R_reset_7 (post : SS → Prop) : Nat → SS → Int32 → Prop
  | 0, _, _ => False
  | n + 1, σ, x1 => br (4 ≤ x1) (nm (sI σ 0 0) fun σ_14 => nm (sI σ_14 1 0) fun σ_15 => nm (sI σ_15 2 0) fun σ_16 => nm (sI σ_16 3 0) fun σ_17 => nm (sI σ_17 4 0) fun σ_18 => nm (sI σ_18 5 0) fun σ_19 => nm (sI σ_19 6 0) fun σ_20 => nm (sI σ_20 7 0) fun σ_21 => ∃ n9, f_R_reset_67 post n9 σ_21 0) (vp_in x1 4 ∧ nm (sA σ 2 x1.toNatClampNeg 0) fun σ_22 => nm (x1 + 1) fun x1_23 => f_R_reset_7 post n σ_22 x1_23)
def f_R_reset (post : SS → Prop) (σ : SS) : Prop := nm (sI σ 29 0) fun σ_24 => ∃ n9, f_R_reset_7 post n9 σ_24 0
section
variable {p : Program} {l : Launch} {e : Env} {s : State} {m : MethodId} {args : Array Value} {below : List Frame} {meth : Method} {c : Code} {Q : State → Prop} {D : va_G} {cA : Nat → ClassId} {a : Nat → Nat} {X : (Nat → Prop) → State → Prop} {A : Nat → Prop}
set_option maxHeartbeats 4000000 in
set_option maxRecDepth 100000 in
theorem c_R_reset_67 (hX : XT X) (fx : CallFix p m c b_R_reset 2 s args GW RNR) {post : SS → Prop} (HR : RetV p l e r_R_reset s m args below meth c Q D vcl (tyl cA) (wR cA a) X A b_R_reset post) : ∀ (n : Nat) {σ : SS} {x1 : Int32} {H : Heap} {locs : List Loc} {ls : Array Slot}, f_R_reset_67 post n σ x1 → CX D vcl (tyl cA) (wR cA a σ) X A s H locs → lv_has ls 2 [(0, .ref (a 0)), (1, .int x1)] → W p l e r_R_reset s m args below meth c H locs 0 0 Q (F0 m 67 ls []) := by
  have hx := fx.1
  have hb := fx.2.1
  intro n
  induction n with
  | zero => intro σ x1 H locs ls h; exact h.elim
  | succ n ih =>
    intro σ x1 H locs ls h hw hl
    have K67 := @ih
    unfold f_R_reset_67 at h
    refine lv_iload_n (pc := 67) hx hb d_R_reset_67 rfl (lv_at hl 1 rfl) ?_
    refine lv_iconst (pc := 68) (v := 3) hx hb d_R_reset_68 (by decide) ?_
    refine lv_icmp_ge (pc := 69) (tgt := 106) hx hb d_R_reset_69 (by decide) (fun c9 => ?_) (fun c9 => ?_)
    · replace h := h.1 c9
      refine lv_aload_n (pc := 106) hx hb d_R_reset_106 rfl (lv_at hl 0 rfl) ?_
      refine lv_iconst (pc := 107) (v := 0) hx hb d_R_reset_107 (by decide) ?_
      refine pR_0_reelSize (pc := 108) fx hw kw_1083 d_R_reset_108 (fun σ_1 e9 H locs hw => ?_)
      replace h := nm_u h e9
      clear e9
      refine lv_aload_n (pc := 111) hx hb d_R_reset_111 rfl (lv_at hl 0 rfl) ?_
      refine lv_iconst (pc := 112) (v := 0) hx hb d_R_reset_112 (by decide) ?_
      refine pR_0_sheetSize (pc := 113) fx hw kw_1085 d_R_reset_113 (fun σ_2 e9 H locs hw => ?_)
      replace h := nm_u h e9
      clear e9
      refine lv_aload_n (pc := 116) hx hb d_R_reset_116 rfl (lv_at hl 0 rfl) ?_
      refine lv_iconst (pc := 117) (v := 0) hx hb d_R_reset_117 (by decide) ?_
      refine pR_0_why (pc := 118) fx hw kw_1086 d_R_reset_118 (fun σ_3 e9 H locs hw => ?_)
      replace h := nm_u h e9
      clear e9
      refine lv_aload_n (pc := 121) hx hb d_R_reset_121 rfl (lv_at hl 0 rfl) ?_
      refine lv_iconst (pc := 122) (v := 0) hx hb d_R_reset_122 (by decide) ?_
      refine pR_0_length (pc := 123) fx hw kw_1088 d_R_reset_123 (fun σ_4 e9 H locs hw => ?_)
      replace h := nm_u h e9
      clear e9
      refine lv_aload_n (pc := 126) hx hb d_R_reset_126 rfl (lv_at hl 0 rfl) ?_
      refine lv_iconst (pc := 127) (v := 0) hx hb d_R_reset_127 (by decide) ?_
      refine pR_0_fault (pc := 128) fx hw kw_1089 d_R_reset_128 (fun σ_5 e9 H locs hw => ?_)
      replace h := nm_u h e9
      clear e9
      refine lv_aload_n (pc := 131) hx hb d_R_reset_131 rfl (lv_at hl 0 rfl) ?_
      refine lv_iconst (pc := 132) (v := 0) hx hb d_R_reset_132 (by decide) ?_
      refine pR_0_faultLine (pc := 133) fx hw kw_1090 d_R_reset_133 (fun σ_6 e9 H locs hw => ?_)
      replace h := nm_u h e9
      clear e9
      refine lv_aload_n (pc := 136) hx hb d_R_reset_136 rfl (lv_at hl 0 rfl) ?_
      refine lv_iconst (pc := 137) (v := 0) hx hb d_R_reset_137 (by decide) ?_
      refine pR_0_keptCount (pc := 138) fx hw kw_1097 d_R_reset_138 (fun σ_7 e9 H locs hw => ?_)
      replace h := nm_u h e9
      clear e9
      refine lv_aload_n (pc := 141) hx hb d_R_reset_141 rfl (lv_at hl 0 rfl) ?_
      refine lv_iconst (pc := 142) (v := 0) hx hb d_R_reset_142 (by decide) ?_
      refine pR_0_toldSize (pc := 143) fx hw kw_1114 d_R_reset_143 (fun σ_8 e9 H locs hw => ?_)
      replace h := nm_u h e9
      clear e9
      exact HR d_R_reset_146 h hw
    · replace h := h.2 c9
      refine lv_aload_n (pc := 72) hx hb d_R_reset_72 rfl (lv_at hl 0 rfl) ?_
      refine gR_0_words (pc := 73) fx hw kw_1078 d_R_reset_73 ?_
      refine lv_iload_n (pc := 76) hx hb d_R_reset_76 rfl (lv_at hl 1 rfl) ?_
      refine lv_iconst (pc := 77) (v := 0) hx hb d_R_reset_77 (by decide) ?_
      refine asR_3 (pc := 78) fx hw h.1 d_R_reset_78 (fun σ_9 e9 H locs hw => ?_)
      replace h := nm_u h.2 e9
      clear e9
      refine lv_aload_n (pc := 79) hx hb d_R_reset_79 rfl (lv_at hl 0 rfl) ?_
      refine gR_0_busy (pc := 80) fx hw kw_1079 d_R_reset_80 ?_
      refine lv_iload_n (pc := 83) hx hb d_R_reset_83 rfl (lv_at hl 1 rfl) ?_
      refine lv_iconst (pc := 84) (v := 0) hx hb d_R_reset_84 (by decide) ?_
      refine asR_4 (pc := 85) fx hw h.1 d_R_reset_85 (fun σ_10 e9 H locs hw => ?_)
      replace h := nm_u h.2 e9
      clear e9
      refine lv_aload_n (pc := 86) hx hb d_R_reset_86 rfl (lv_at hl 0 rfl) ?_
      refine gR_0_ready (pc := 87) fx hw kw_1080 d_R_reset_87 ?_
      refine lv_iload_n (pc := 90) hx hb d_R_reset_90 rfl (lv_at hl 1 rfl) ?_
      refine lv_iconst (pc := 91) (v := 0) hx hb d_R_reset_91 (by decide) ?_
      refine asR_5 (pc := 92) fx hw h.1 d_R_reset_92 (fun σ_11 e9 H locs hw => ?_)
      replace h := nm_u h.2 e9
      clear e9
      refine lv_aload_n (pc := 93) hx hb d_R_reset_93 rfl (lv_at hl 0 rfl) ?_
      refine gR_0_ticks (pc := 94) fx hw kw_1081 d_R_reset_94 ?_
      refine lv_iload_n (pc := 97) hx hb d_R_reset_97 rfl (lv_at hl 1 rfl) ?_
      refine lv_iconst (pc := 98) (v := 0) hx hb d_R_reset_98 (by decide) ?_
      refine asR_6 (pc := 99) fx hw h.1 d_R_reset_99 (fun σ_12 e9 H locs hw => ?_)
      replace h := nm_u h.2 e9
      clear e9
      obtain ⟨x1_13, e9⟩ : ∃ z : Int32, z = x1 + 1 := ⟨_, rfl⟩
      replace h := nm_u h e9
      refine lv_iinc (pc := 100) (v := x1_13) (lv' := [(1, .int x1_13), (0, .ref (a 0))]) hx hb d_R_reset_100 hl (k := 1) rfl (by rw [e9]; rfl) (by decide) rfl (fun ls hl => ?_)
      clear e9
      refine lv_goto (pc := 103) (tgt := 67) hx hb d_R_reset_103 (by decide) ?_
      exact K67 h hw (lv_sub hl [1, 0] rfl)
set_option maxHeartbeats 4000000 in
set_option maxRecDepth 100000 in
theorem c_R_reset_7 (hX : XT X) (fx : CallFix p m c b_R_reset 2 s args GW RNR) {post : SS → Prop} (HR : RetV p l e r_R_reset s m args below meth c Q D vcl (tyl cA) (wR cA a) X A b_R_reset post) : ∀ (n : Nat) {σ : SS} {x1 : Int32} {H : Heap} {locs : List Loc} {ls : Array Slot}, f_R_reset_7 post n σ x1 → CX D vcl (tyl cA) (wR cA a σ) X A s H locs → lv_has ls 2 [(0, .ref (a 0)), (1, .int x1)] → W p l e r_R_reset s m args below meth c H locs 0 0 Q (F0 m 7 ls []) := by
  have hx := fx.1
  have hb := fx.2.1
  intro n
  induction n with
  | zero => intro σ x1 H locs ls h; exact h.elim
  | succ n ih =>
    intro σ x1 H locs ls h hw hl
    have K7 := @ih
    unfold f_R_reset_7 at h
    refine lv_iload_n (pc := 7) hx hb d_R_reset_7 rfl (lv_at hl 1 rfl) ?_
    refine lv_iconst (pc := 8) (v := 4) hx hb d_R_reset_8 (by decide) ?_
    refine lv_icmp_ge (pc := 9) (tgt := 25) hx hb d_R_reset_9 (by decide) (fun c9 => ?_) (fun c9 => ?_)
    · replace h := h.1 c9
      refine lv_aload_n (pc := 25) hx hb d_R_reset_25 rfl (lv_at hl 0 rfl) ?_
      refine lv_iconst (pc := 26) (v := 0) hx hb d_R_reset_26 (by decide) ?_
      refine pR_0_carry (pc := 27) fx hw kw_1069 d_R_reset_27 (fun σ_14 e9 H locs hw => ?_)
      replace h := nm_u h e9
      clear e9
      refine lv_aload_n (pc := 30) hx hb d_R_reset_30 rfl (lv_at hl 0 rfl) ?_
      refine lv_iconst (pc := 31) (v := 0) hx hb d_R_reset_31 (by decide) ?_
      refine pR_0_pc (pc := 32) fx hw kw_1070 d_R_reset_32 (fun σ_15 e9 H locs hw => ?_)
      replace h := nm_u h e9
      clear e9
      refine lv_aload_n (pc := 35) hx hb d_R_reset_35 rfl (lv_at hl 0 rfl) ?_
      refine lv_iconst (pc := 36) (v := 0) hx hb d_R_reset_36 (by decide) ?_
      refine pR_0_switches (pc := 37) fx hw kw_1071 d_R_reset_37 (fun σ_16 e9 H locs hw => ?_)
      replace h := nm_u h e9
      clear e9
      refine lv_aload_n (pc := 40) hx hb d_R_reset_40 rfl (lv_at hl 0 rfl) ?_
      refine lv_iconst (pc := 41) (v := 0) hx hb d_R_reset_41 (by decide) ?_
      refine pR_0_ion (pc := 42) fx hw kw_1072 bz_0 d_R_reset_42 (fun σ_17 e9 H locs hw => ?_)
      replace h := nm_u h e9
      clear e9
      refine lv_aload_n (pc := 45) hx hb d_R_reset_45 rfl (lv_at hl 0 rfl) ?_
      refine lv_iconst (pc := 46) (v := 0) hx hb d_R_reset_46 (by decide) ?_
      refine pR_0_justIon (pc := 47) fx hw kw_1073 bz_0 d_R_reset_47 (fun σ_18 e9 H locs hw => ?_)
      replace h := nm_u h e9
      clear e9
      refine lv_aload_n (pc := 50) hx hb d_R_reset_50 rfl (lv_at hl 0 rfl) ?_
      refine lv_iconst (pc := 51) (v := 0) hx hb d_R_reset_51 (by decide) ?_
      refine pR_0_mask (pc := 52) fx hw kw_1074 d_R_reset_52 (fun σ_19 e9 H locs hw => ?_)
      replace h := nm_u h e9
      clear e9
      refine lv_aload_n (pc := 55) hx hb d_R_reset_55 rfl (lv_at hl 0 rfl) ?_
      refine lv_iconst (pc := 56) (v := 0) hx hb d_R_reset_56 (by decide) ?_
      refine pR_0_done (pc := 57) fx hw kw_1075 d_R_reset_57 (fun σ_20 e9 H locs hw => ?_)
      replace h := nm_u h e9
      clear e9
      refine lv_aload_n (pc := 60) hx hb d_R_reset_60 rfl (lv_at hl 0 rfl) ?_
      refine lv_iconst (pc := 61) (v := 0) hx hb d_R_reset_61 (by decide) ?_
      refine pR_0_interrupts (pc := 62) fx hw kw_1076 d_R_reset_62 (fun σ_21 e9 H locs hw => ?_)
      replace h := nm_u h e9
      clear e9
      refine lv_iconst (pc := 65) (v := 0) hx hb d_R_reset_65 (by decide) ?_
      refine lv_istore_n (pc := 66) (lv' := [(1, .int 0), (0, .ref (a 0))]) hx hb d_R_reset_66 rfl hl (by decide) rfl (fun ls hl => ?_)
      obtain ⟨n9, h⟩ := h
      exact c_R_reset_67 hX fx HR n9 h hw (lv_sub hl [1, 0] rfl)
    · replace h := h.2 c9
      refine lv_aload_n (pc := 12) hx hb d_R_reset_12 rfl (lv_at hl 0 rfl) ?_
      refine gR_0_accumulators (pc := 13) fx hw kw_1068 d_R_reset_13 ?_
      refine lv_iload_n (pc := 16) hx hb d_R_reset_16 rfl (lv_at hl 1 rfl) ?_
      refine lv_iconst (pc := 17) (v := 0) hx hb d_R_reset_17 (by decide) ?_
      refine asR_2 (pc := 18) fx hw h.1 d_R_reset_18 (fun σ_22 e9 H locs hw => ?_)
      replace h := nm_u h.2 e9
      clear e9
      obtain ⟨x1_23, e9⟩ : ∃ z : Int32, z = x1 + 1 := ⟨_, rfl⟩
      replace h := nm_u h e9
      refine lv_iinc (pc := 19) (v := x1_23) (lv' := [(1, .int x1_23), (0, .ref (a 0))]) hx hb d_R_reset_19 hl (k := 1) rfl (by rw [e9]; rfl) (by decide) rfl (fun ls hl => ?_)
      clear e9
      refine lv_goto (pc := 22) (tgt := 7) hx hb d_R_reset_22 (by decide) ?_
      exact K7 h hw (lv_sub hl [1, 0] rfl)
set_option maxHeartbeats 4000000 in
set_option maxRecDepth 100000 in
theorem e_R_reset (hX : XT X) (fx : CallFix p m c b_R_reset 2 s args GW RNR) {post : SS → Prop} (HR : RetV p l e r_R_reset s m args below meth c Q D vcl (tyl cA) (wR cA a) X A b_R_reset post) {σ : SS} {H : Heap} {locs : List Loc} {ls : Array Slot} (h : f_R_reset post σ) (hw : CX D vcl (tyl cA) (wR cA a σ) X A s H locs) (hl : lv_has ls 2 [(0, .ref (a 0))]) : W p l e r_R_reset s m args below meth c H locs 0 0 Q (F0 m 0 ls []) := by
  have hx := fx.1
  have hb := fx.2.1
  unfold f_R_reset at h
  refine lv_aload_n (pc := 0) hx hb d_R_reset_0 rfl (lv_at hl 0 rfl) ?_
  refine lv_iconst (pc := 1) (v := 0) hx hb d_R_reset_1 (by decide) ?_
  refine pR_0_thrown (pc := 2) fx hw kw_1115 d_R_reset_2 (fun σ_24 e9 H locs hw => ?_)
  replace h := nm_u h e9
  clear e9
  refine lv_iconst (pc := 5) (v := 0) hx hb d_R_reset_5 (by decide) ?_
  refine lv_istore_n (pc := 6) (lv' := [(1, .int 0), (0, .ref (a 0))]) hx hb d_R_reset_6 rfl hl (by decide) rfl (fun ls hl => ?_)
  obtain ⟨n9, h⟩ := h
  exact c_R_reset_7 hX fx HR n9 h hw (lv_sub hl [1, 0] rfl)
end
theorem c_R_reset {l : Launch} {D : va_G} {cA : Nat → ClassId} {a : Nat → Nat} {X : (Nat → Prop) → State → Prop} (hX : XT X) {σ : SS} {post : SS → Prop} (h : f_R_reset post σ) : mV l y_R_reset b_R_reset 2 none 0 0 D vcl (tyl cA) (wR cA a) X σ [.ref (a 0)] post := met_V (by decide) (Nat.le_of_ble_eq_true rfl) (fun p e s m args below meth c A Q fx HR H ls hw hl => e_R_reset hX fx HR h hw hl)
abbrev r_R_chase : Room := { frames := 1, cells := 0, slots := 0, locals := 22 }
def f_R_chase_69 (post : Int32 → SS → Prop) (k4 : SS → Int32 → Int32 → Prop) (σ : SS) (x2 : Int32) (x3 : Int32) : Prop := vp_in x2 32768 ∧ nm (σ.2.1 1 x2.toNatClampNeg) fun x4_1 => nm (x4_1 - x4_1 / 32768 * 32768) fun x2_2 => br (32768 ≤ x4_1) (nm (x3 + 1) fun x3_3 => k4 σ x2_2 x3_3) (post x2_2 σ)
def f_R_chase_38 (post : Int32 → SS → Prop) (k4 : SS → Int32 → Int32 → Prop) (σ : SS) (x2 : Int32) (x3 : Int32) : Prop := f_R_within (fun r_5 σ_4 => br (r_5 = 0) (f_R_chase_69 post k4 σ_4 x2 x3) (vp_in x2 32768 ∧ vp_in x2 32768 ∧ nm (sA σ_4 1 x2.toNatClampNeg ((((σ_4.2.1 1 x2.toNatClampNeg) + 65536) - 1) - (((σ_4.2.1 1 x2.toNatClampNeg) + 65536) - 1) / 65536 * 65536)) fun σ_6 => f_R_chase_69 post k4 σ_6 x2 x3)) σ x2 24 31
def f_R_chase_4 (post : Int32 → SS → Prop) : Nat → SS → Int32 → Int32 → Prop
  | 0, _, _, _ => False
  | n + 1, σ, x2, x3 => br (14 ≤ x3) (nm (sI σ 8 1) fun σ_7 => post 0 σ_7) (f_R_within (fun r_9 σ_8 => br (r_9 = 0) (f_R_chase_38 post (f_R_chase_4 post n) σ_8 x2 x3) (vp_in x2 32768 ∧ vp_in x2 32768 ∧ nm (sA σ_8 1 x2.toNatClampNeg (((σ_8.2.1 1 x2.toNatClampNeg) + 1) - ((σ_8.2.1 1 x2.toNatClampNeg) + 1) / 65536 * 65536)) fun σ_10 => f_R_chase_38 post (f_R_chase_4 post n) σ_10 x2 x3)) σ x2 16 23)
def f_R_chase (post : Int32 → SS → Prop) (σ : SS) (x1 : Int32) : Prop := ∃ n9, f_R_chase_4 post n9 σ x1 0
section
variable {p : Program} {l : Launch} {e : Env} {s : State} {m : MethodId} {args : Array Value} {below : List Frame} {meth : Method} {c : Code} {Q : State → Prop} {D : va_G} {cA : Nat → ClassId} {a : Nat → Nat} {X : (Nat → Prop) → State → Prop} {A : Nat → Prop}
set_option maxHeartbeats 4000000 in
set_option maxRecDepth 100000 in
theorem c_R_chase_69 (hX : XT X) (fx : CallFix p m c b_R_chase 5 s args GW RNR) {post : Int32 → SS → Prop} (HR : RetI p l e r_R_chase s m args below meth c Q D vcl (tyl cA) (wR cA a) X A b_R_chase .int post) {k4 : SS → Int32 → Int32 → Prop} (K4 : ∀ {σ : SS} {x2 : Int32} {x3 : Int32} {H : Heap} {locs : List Loc} {ls : Array Slot}, k4 σ x2 x3 → CX D vcl (tyl cA) (wR cA a σ) X A s H locs → lv_has ls 5 [(0, .ref (a 0)), (2, .int x2), (3, .int x3)] → W p l e r_R_chase s m args below meth c H locs 0 0 Q (F0 m 4 ls [])) {σ : SS} {x2 : Int32} {x3 : Int32} {H : Heap} {locs : List Loc} {ls : Array Slot} (h : f_R_chase_69 post k4 σ x2 x3) (hw : CX D vcl (tyl cA) (wR cA a σ) X A s H locs) (hl : lv_has ls 5 [(0, .ref (a 0)), (2, .int x2), (3, .int x3)]) : W p l e r_R_chase s m args below meth c H locs 0 0 Q (F0 m 69 ls []) := by
  have hx := fx.1
  have hb := fx.2.1
  unfold f_R_chase_69 at h
  refine lv_aload_n (pc := 69) hx hb d_R_chase_69 rfl (lv_at hl 0 rfl) ?_
  refine gR_0_memory (pc := 70) fx hw kw_1067 d_R_chase_70 ?_
  refine lv_iload_n (pc := 73) hx hb d_R_chase_73 rfl (lv_at hl 1 rfl) ?_
  refine alR_1 (pc := 74) fx hw h.1 d_R_chase_74 ?_
  replace h := h.2
  refine lv_topi (fun x4_1 e9 => ?_)
  replace h := nm_u h e9
  clear e9
  refine lv_istore (pc := 75) (lv' := [(4, .int x4_1), (0, .ref (a 0)), (2, .int x2), (3, .int x3)]) hx hb d_R_chase_75 hl (by decide) rfl (fun ls hl => ?_)
  refine lv_iload (pc := 77) hx hb d_R_chase_77 (lv_at hl 0 rfl) ?_
  refine lv_ldc (pc := 79) (v := 32768) hx hb fx.2.2.2.1 (fx.2.2.2.2 _ kw_1066) d_R_chase_79 ?_
  refine lv_irem (pc := 81) hx hb d_R_chase_81 (by decide) ?_
  refine lv_topi (fun x2_2 e9 => ?_)
  replace h := nm_u h e9
  clear e9
  refine lv_istore_n (pc := 82) (lv' := [(2, .int x2_2), (4, .int x4_1), (0, .ref (a 0)), (3, .int x3)]) hx hb d_R_chase_82 rfl hl (by decide) rfl (fun ls hl => ?_)
  refine lv_iload (pc := 83) hx hb d_R_chase_83 (lv_at hl 1 rfl) ?_
  refine lv_ldc (pc := 85) (v := 32768) hx hb fx.2.2.2.1 (fx.2.2.2.2 _ kw_1066) d_R_chase_85 ?_
  refine lv_icmp_ge (pc := 87) (tgt := 92) hx hb d_R_chase_87 (by decide) (fun c9 => ?_) (fun c9 => ?_)
  · replace h := h.1 c9
    obtain ⟨x3_3, e9⟩ : ∃ z : Int32, z = x3 + 1 := ⟨_, rfl⟩
    replace h := nm_u h e9
    refine lv_iinc (pc := 92) (v := x3_3) (lv' := [(3, .int x3_3), (2, .int x2_2), (4, .int x4_1), (0, .ref (a 0))]) hx hb d_R_chase_92 hl (k := 3) rfl (by rw [e9]; rfl) (by decide) rfl (fun ls hl => ?_)
    clear e9
    refine lv_goto (pc := 95) (tgt := 4) hx hb d_R_chase_95 (by decide) ?_
    exact K4 h hw (lv_sub hl [3, 1, 0] rfl)
  · replace h := h.2 c9
    refine lv_iload_n (pc := 90) hx hb d_R_chase_90 rfl (lv_at hl 0 rfl) ?_
    exact HR rfl d_R_chase_91 h hw
set_option maxHeartbeats 4000000 in
set_option maxRecDepth 100000 in
theorem c_R_chase_38 (hX : XT X) (fx : CallFix p m c b_R_chase 5 s args GW RNR) {post : Int32 → SS → Prop} (HR : RetI p l e r_R_chase s m args below meth c Q D vcl (tyl cA) (wR cA a) X A b_R_chase .int post) {k4 : SS → Int32 → Int32 → Prop} (K4 : ∀ {σ : SS} {x2 : Int32} {x3 : Int32} {H : Heap} {locs : List Loc} {ls : Array Slot}, k4 σ x2 x3 → CX D vcl (tyl cA) (wR cA a σ) X A s H locs → lv_has ls 5 [(0, .ref (a 0)), (2, .int x2), (3, .int x3)] → W p l e r_R_chase s m args below meth c H locs 0 0 Q (F0 m 4 ls [])) {σ : SS} {x2 : Int32} {x3 : Int32} {H : Heap} {locs : List Loc} {ls : Array Slot} (h : f_R_chase_38 post k4 σ x2 x3) (hw : CX D vcl (tyl cA) (wR cA a σ) X A s H locs) (hl : lv_has ls 5 [(0, .ref (a 0)), (2, .int x2), (3, .int x3)]) : W p l e r_R_chase s m args below meth c H locs 0 0 Q (F0 m 38 ls []) := by
  have hx := fx.1
  have hb := fx.2.1
  unfold f_R_chase_38 at h
  refine lv_iload_n (pc := 38) hx hb d_R_chase_38 rfl (lv_at hl 1 rfl) ?_
  refine lv_bipush (pc := 39) (v := 24) hx hb d_R_chase_39 (by decide) ?_
  refine lv_bipush (pc := 41) (v := 31) hx hb d_R_chase_41 (by decide) ?_
  refine cxSI (pc := 43) hX fx hw (c_R_within hX h) cw_R_72 rfl ⟨Nat.le_of_ble_eq_true rfl, Nat.le_of_ble_eq_true rfl⟩ hl.1 (Nat.le_of_ble_eq_true rfl) d_R_chase_43 ⟨Nat.zero_le _, Nat.zero_le _⟩ (fun r_5 σ_4 H locs hw h => ?_)
  have zr_5 := h.1
  replace h := h.2
  refine lv_if_eq (pc := 46) (tgt := 69) hx hb d_R_chase_46 (by decide) (fun c9 => ?_) (fun c9 => ?_)
  · replace h := h.1 c9
    exact c_R_chase_69 hX fx HR K4 h hw (lv_sub hl [0, 1, 2] rfl)
  · replace h := h.2 c9
    refine lv_aload_n (pc := 49) hx hb d_R_chase_49 rfl (lv_at hl 0 rfl) ?_
    refine gR_0_memory (pc := 50) fx hw kw_1067 d_R_chase_50 ?_
    refine lv_iload_n (pc := 53) hx hb d_R_chase_53 rfl (lv_at hl 1 rfl) ?_
    refine lv_aload_n (pc := 54) hx hb d_R_chase_54 rfl (lv_at hl 0 rfl) ?_
    refine gR_0_memory (pc := 55) fx hw kw_1067 d_R_chase_55 ?_
    refine lv_iload_n (pc := 58) hx hb d_R_chase_58 rfl (lv_at hl 1 rfl) ?_
    refine alR_1 (pc := 59) fx hw h.1 d_R_chase_59 ?_
    replace h := h.2
    refine lv_ldc (pc := 60) (v := 65536) hx hb fx.2.2.2.1 (fx.2.2.2.2 _ kw_1288) d_R_chase_60 ?_
    refine lv_iadd (pc := 62) hx hb d_R_chase_62 ?_
    refine lv_iconst (pc := 63) (v := 1) hx hb d_R_chase_63 (by decide) ?_
    refine lv_isub (pc := 64) hx hb d_R_chase_64 ?_
    refine lv_ldc (pc := 65) (v := 65536) hx hb fx.2.2.2.1 (fx.2.2.2.2 _ kw_1288) d_R_chase_65 ?_
    refine lv_irem (pc := 67) hx hb d_R_chase_67 (by decide) ?_
    refine asR_1 (pc := 68) fx hw h.1 d_R_chase_68 (fun σ_6 e9 H locs hw => ?_)
    replace h := nm_u h.2 e9
    clear e9
    exact c_R_chase_69 hX fx HR K4 h hw (lv_sub hl [0, 1, 2] rfl)
set_option maxHeartbeats 4000000 in
set_option maxRecDepth 100000 in
theorem c_R_chase_4 (hX : XT X) (fx : CallFix p m c b_R_chase 5 s args GW RNR) {post : Int32 → SS → Prop} (HR : RetI p l e r_R_chase s m args below meth c Q D vcl (tyl cA) (wR cA a) X A b_R_chase .int post) : ∀ (n : Nat) {σ : SS} {x2 : Int32} {x3 : Int32} {H : Heap} {locs : List Loc} {ls : Array Slot}, f_R_chase_4 post n σ x2 x3 → CX D vcl (tyl cA) (wR cA a σ) X A s H locs → lv_has ls 5 [(0, .ref (a 0)), (2, .int x2), (3, .int x3)] → W p l e r_R_chase s m args below meth c H locs 0 0 Q (F0 m 4 ls []) := by
  have hx := fx.1
  have hb := fx.2.1
  intro n
  induction n with
  | zero => intro σ x2 x3 H locs ls h; exact h.elim
  | succ n ih =>
    intro σ x2 x3 H locs ls h hw hl
    have K4 := @ih
    unfold f_R_chase_4 at h
    refine lv_iload_n (pc := 4) hx hb d_R_chase_4 rfl (lv_at hl 2 rfl) ?_
    refine lv_bipush (pc := 5) (v := 14) hx hb d_R_chase_5 (by decide) ?_
    refine lv_icmp_ge (pc := 7) (tgt := 98) hx hb d_R_chase_7 (by decide) (fun c9 => ?_) (fun c9 => ?_)
    · replace h := h.1 c9
      refine lv_aload_n (pc := 98) hx hb d_R_chase_98 rfl (lv_at hl 0 rfl) ?_
      refine lv_iconst (pc := 99) (v := 1) hx hb d_R_chase_99 (by decide) ?_
      refine pR_0_lost (pc := 100) fx hw kw_1077 bz_1 d_R_chase_100 (fun σ_7 e9 H locs hw => ?_)
      replace h := nm_u h e9
      clear e9
      refine lv_iconst (pc := 103) (v := 0) hx hb d_R_chase_103 (by decide) ?_
      exact HR rfl d_R_chase_104 h hw
    · replace h := h.2 c9
      refine lv_iload_n (pc := 10) hx hb d_R_chase_10 rfl (lv_at hl 1 rfl) ?_
      refine lv_bipush (pc := 11) (v := 16) hx hb d_R_chase_11 (by decide) ?_
      refine lv_bipush (pc := 13) (v := 23) hx hb d_R_chase_13 (by decide) ?_
      refine cxSI (pc := 15) hX fx hw (c_R_within hX h) cw_R_72 rfl ⟨Nat.le_of_ble_eq_true rfl, Nat.le_of_ble_eq_true rfl⟩ hl.1 (Nat.le_of_ble_eq_true rfl) d_R_chase_15 ⟨Nat.zero_le _, Nat.zero_le _⟩ (fun r_9 σ_8 H locs hw h => ?_)
      have zr_9 := h.1
      replace h := h.2
      refine lv_if_eq (pc := 18) (tgt := 38) hx hb d_R_chase_18 (by decide) (fun c9 => ?_) (fun c9 => ?_)
      · replace h := h.1 c9
        exact c_R_chase_38 hX fx HR K4 h hw (lv_sub hl [0, 1, 2] rfl)
      · replace h := h.2 c9
        refine lv_aload_n (pc := 21) hx hb d_R_chase_21 rfl (lv_at hl 0 rfl) ?_
        refine gR_0_memory (pc := 22) fx hw kw_1067 d_R_chase_22 ?_
        refine lv_iload_n (pc := 25) hx hb d_R_chase_25 rfl (lv_at hl 1 rfl) ?_
        refine lv_aload_n (pc := 26) hx hb d_R_chase_26 rfl (lv_at hl 0 rfl) ?_
        refine gR_0_memory (pc := 27) fx hw kw_1067 d_R_chase_27 ?_
        refine lv_iload_n (pc := 30) hx hb d_R_chase_30 rfl (lv_at hl 1 rfl) ?_
        refine alR_1 (pc := 31) fx hw h.1 d_R_chase_31 ?_
        replace h := h.2
        refine lv_iconst (pc := 32) (v := 1) hx hb d_R_chase_32 (by decide) ?_
        refine lv_iadd (pc := 33) hx hb d_R_chase_33 ?_
        refine lv_ldc (pc := 34) (v := 65536) hx hb fx.2.2.2.1 (fx.2.2.2.2 _ kw_1288) d_R_chase_34 ?_
        refine lv_irem (pc := 36) hx hb d_R_chase_36 (by decide) ?_
        refine asR_1 (pc := 37) fx hw h.1 d_R_chase_37 (fun σ_10 e9 H locs hw => ?_)
        replace h := nm_u h.2 e9
        clear e9
        exact c_R_chase_38 hX fx HR K4 h hw (lv_sub hl [0, 1, 2] rfl)
set_option maxHeartbeats 4000000 in
set_option maxRecDepth 100000 in
theorem e_R_chase (hX : XT X) (fx : CallFix p m c b_R_chase 5 s args GW RNR) {post : Int32 → SS → Prop} (HR : RetI p l e r_R_chase s m args below meth c Q D vcl (tyl cA) (wR cA a) X A b_R_chase .int post) {σ : SS} {x1 : Int32} {H : Heap} {locs : List Loc} {ls : Array Slot} (h : f_R_chase post σ x1) (hw : CX D vcl (tyl cA) (wR cA a σ) X A s H locs) (hl : lv_has ls 5 [(0, .ref (a 0)), (1, .int x1)]) : W p l e r_R_chase s m args below meth c H locs 0 0 Q (F0 m 0 ls []) := by
  have hx := fx.1
  have hb := fx.2.1
  unfold f_R_chase at h
  refine lv_iload_n (pc := 0) hx hb d_R_chase_0 rfl (lv_at hl 1 rfl) ?_
  refine lv_istore_n (pc := 1) (lv' := [(2, .int x1), (0, .ref (a 0)), (1, .int x1)]) hx hb d_R_chase_1 rfl hl (by decide) rfl (fun ls hl => ?_)
  refine lv_iconst (pc := 2) (v := 0) hx hb d_R_chase_2 (by decide) ?_
  refine lv_istore_n (pc := 3) (lv' := [(3, .int 0), (2, .int x1), (0, .ref (a 0)), (1, .int x1)]) hx hb d_R_chase_3 rfl hl (by decide) rfl (fun ls hl => ?_)
  obtain ⟨n9, h⟩ := h
  exact c_R_chase_4 hX fx HR n9 h hw (lv_sub hl [2, 1, 0] rfl)
end
theorem c_R_chase {l : Launch} {D : va_G} {cA : Nat → ClassId} {a : Nat → Nat} {X : (Nat → Prop) → State → Prop} (hX : XT X) {σ : SS} {post : Int32 → SS → Prop} {x1 : Int32} (h : f_R_chase post σ x1) : mI l y_R_chase b_R_chase 5 (some .int) 1 22 D vcl (tyl cA) (wR cA a) X σ [.ref (a 0), .int x1] post := met_I (by decide) (Nat.le_of_ble_eq_true rfl) (fun p e s m args below meth c A Q fx HR H ls hw hl => e_R_chase hX fx HR h hw hl)
abbrev r_R_addressOf : Room := { frames := 2, cells := 0, slots := 0, locals := 46 }
def f_R_addressOf_57 (post : Int32 → SS → Prop) (σ : SS) (x1 : Int32) (x2 : Int32) (x4 : Int32) : Prop := nm ((x4 + x2) - (x4 + x2) / 32768 * 32768) fun x5_1 => br (((x1 / 1024) - (x1 / 1024) / 2 * 2) = 1) (f_R_chase (fun r_3 σ_2 => post r_3 σ_2) σ x5_1) (post x5_1 σ)
def f_R_addressOf_40 (post : Int32 → SS → Prop) (σ : SS) (x1 : Int32) (x2 : Int32) (x3 : Int32) (s0 : Int32) : Prop := br (x3 ≤ 0) (f_R_addressOf_57 post σ x1 x2 s0) (br (x2 ≤ 127) (f_R_addressOf_57 post σ x1 x2 s0) (nm (x2 + 65280) fun x2_4 => f_R_addressOf_57 post σ x1 x2_4 s0))
def f_R_addressOf (post : Int32 → SS → Prop) (σ : SS) (x1 : Int32) : Prop := nm (x1 - x1 / 256 * 256) fun x2_5 => nm ((x1 / 256) - (x1 / 256) / 4 * 4) fun x3_6 => br (x3_6 = 0) (f_R_addressOf_40 post σ x1 x2_5 x3_6 0) (br (x3_6 = 1) (f_R_addressOf_40 post σ x1 x2_5 x3_6 (σ.1 1)) (vp_in x3_6 4 ∧ f_R_addressOf_40 post σ x1 x2_5 x3_6 (σ.2.1 2 x3_6.toNatClampNeg)))
section
variable {p : Program} {l : Launch} {e : Env} {s : State} {m : MethodId} {args : Array Value} {below : List Frame} {meth : Method} {c : Code} {Q : State → Prop} {D : va_G} {cA : Nat → ClassId} {a : Nat → Nat} {X : (Nat → Prop) → State → Prop} {A : Nat → Prop}
set_option maxHeartbeats 4000000 in
set_option maxRecDepth 100000 in
theorem c_R_addressOf_57 (hX : XT X) (fx : CallFix p m c b_R_addressOf 6 s args GW RNR) {post : Int32 → SS → Prop} (HR : RetI p l e r_R_addressOf s m args below meth c Q D vcl (tyl cA) (wR cA a) X A b_R_addressOf .int post) {σ : SS} {x1 : Int32} {x2 : Int32} {x4 : Int32} {H : Heap} {locs : List Loc} {ls : Array Slot} (h : f_R_addressOf_57 post σ x1 x2 x4) (hw : CX D vcl (tyl cA) (wR cA a σ) X A s H locs) (hl : lv_has ls 6 [(0, .ref (a 0)), (1, .int x1), (2, .int x2), (4, .int x4)]) : W p l e r_R_addressOf s m args below meth c H locs 0 0 Q (F0 m 57 ls []) := by
  have hx := fx.1
  have hb := fx.2.1
  unfold f_R_addressOf_57 at h
  refine lv_iload (pc := 57) hx hb d_R_addressOf_57 (lv_at hl 3 rfl) ?_
  refine lv_iload_n (pc := 59) hx hb d_R_addressOf_59 rfl (lv_at hl 2 rfl) ?_
  refine lv_iadd (pc := 60) hx hb d_R_addressOf_60 ?_
  refine lv_ldc (pc := 61) (v := 32768) hx hb fx.2.2.2.1 (fx.2.2.2.2 _ kw_1066) d_R_addressOf_61 ?_
  refine lv_irem (pc := 63) hx hb d_R_addressOf_63 (by decide) ?_
  refine lv_topi (fun x5_1 e9 => ?_)
  replace h := nm_u h e9
  clear e9
  refine lv_istore (pc := 64) (lv' := [(5, .int x5_1), (0, .ref (a 0)), (1, .int x1), (2, .int x2), (4, .int x4)]) hx hb d_R_addressOf_64 hl (by decide) rfl (fun ls hl => ?_)
  refine lv_iload_n (pc := 66) hx hb d_R_addressOf_66 rfl (lv_at hl 2 rfl) ?_
  refine lv_sipush (pc := 67) (v := 1024) hx hb d_R_addressOf_67 (by decide) ?_
  refine lv_idiv (pc := 70) hx hb d_R_addressOf_70 (by decide) ?_
  refine lv_iconst (pc := 71) (v := 2) hx hb d_R_addressOf_71 (by decide) ?_
  refine lv_irem (pc := 72) hx hb d_R_addressOf_72 (by decide) ?_
  refine lv_iconst (pc := 73) (v := 1) hx hb d_R_addressOf_73 (by decide) ?_
  refine lv_icmp_ne (pc := 74) (tgt := 86) hx hb d_R_addressOf_74 (by decide) (fun c9 => ?_) (fun c9 => ?_)
  · replace h := h.2 c9
    refine lv_iload (pc := 86) hx hb d_R_addressOf_86 (lv_at hl 0 rfl) ?_
    exact HR rfl d_R_addressOf_88 h hw
  · replace h := h.1 c9
    refine lv_aload_n (pc := 77) hx hb d_R_addressOf_77 rfl (lv_at hl 1 rfl) ?_
    refine lv_iload (pc := 78) hx hb d_R_addressOf_78 (lv_at hl 0 rfl) ?_
    refine cxI (pc := 80) hX fx hw (c_R_chase hX h) cw_R_139 (rcR_0 hw) rfl ⟨Nat.le_of_ble_eq_true rfl, Nat.le_of_ble_eq_true rfl⟩ hl.1 (Nat.le_of_ble_eq_true rfl) d_R_addressOf_80 ⟨Nat.zero_le _, Nat.zero_le _⟩ (fun r_3 σ_2 H locs hw h => ?_)
    refine lv_goto (pc := 83) (tgt := 88) hx hb d_R_addressOf_83 (by decide) ?_
    exact HR rfl d_R_addressOf_88 h hw
set_option maxHeartbeats 4000000 in
set_option maxRecDepth 100000 in
theorem c_R_addressOf_40 (hX : XT X) (fx : CallFix p m c b_R_addressOf 6 s args GW RNR) {post : Int32 → SS → Prop} (HR : RetI p l e r_R_addressOf s m args below meth c Q D vcl (tyl cA) (wR cA a) X A b_R_addressOf .int post) {σ : SS} {x1 : Int32} {x2 : Int32} {x3 : Int32} {s0 : Int32} {H : Heap} {locs : List Loc} {ls : Array Slot} (h : f_R_addressOf_40 post σ x1 x2 x3 s0) (hw : CX D vcl (tyl cA) (wR cA a σ) X A s H locs) (hl : lv_has ls 6 [(0, .ref (a 0)), (1, .int x1), (2, .int x2), (3, .int x3)]) : W p l e r_R_addressOf s m args below meth c H locs 0 0 Q (F0 m 40 ls [.int s0]) := by
  have hx := fx.1
  have hb := fx.2.1
  unfold f_R_addressOf_40 at h
  refine lv_istore (pc := 40) (lv' := [(4, .int s0), (0, .ref (a 0)), (1, .int x1), (2, .int x2), (3, .int x3)]) hx hb d_R_addressOf_40 hl (by decide) rfl (fun ls hl => ?_)
  refine lv_iload_n (pc := 42) hx hb d_R_addressOf_42 rfl (lv_at hl 4 rfl) ?_
  refine lv_if_le (pc := 43) (tgt := 57) hx hb d_R_addressOf_43 (by decide) (fun c9 => ?_) (fun c9 => ?_)
  · replace h := h.1 c9
    exact c_R_addressOf_57 hX fx HR h hw (lv_sub hl [1, 2, 3, 0] rfl)
  · replace h := h.2 c9
    refine lv_iload_n (pc := 46) hx hb d_R_addressOf_46 rfl (lv_at hl 3 rfl) ?_
    refine lv_bipush (pc := 47) (v := 127) hx hb d_R_addressOf_47 (by decide) ?_
    refine lv_icmp_le (pc := 49) (tgt := 57) hx hb d_R_addressOf_49 (by decide) (fun c9 => ?_) (fun c9 => ?_)
    · replace h := h.1 c9
      exact c_R_addressOf_57 hX fx HR h hw (lv_sub hl [1, 2, 3, 0] rfl)
    · replace h := h.2 c9
      refine lv_iload_n (pc := 52) hx hb d_R_addressOf_52 rfl (lv_at hl 3 rfl) ?_
      refine lv_ldc (pc := 53) (v := 65280) hx hb fx.2.2.2.1 (fx.2.2.2.2 _ kw_1305) d_R_addressOf_53 ?_
      refine lv_iadd (pc := 55) hx hb d_R_addressOf_55 ?_
      refine lv_topi (fun x2_4 e9 => ?_)
      replace h := nm_u h e9
      clear e9
      refine lv_istore_n (pc := 56) (lv' := [(2, .int x2_4), (4, .int s0), (0, .ref (a 0)), (1, .int x1), (3, .int x3)]) hx hb d_R_addressOf_56 rfl hl (by decide) rfl (fun ls hl => ?_)
      exact c_R_addressOf_57 hX fx HR h hw (lv_sub hl [2, 3, 0, 1] rfl)
set_option maxHeartbeats 4000000 in
set_option maxRecDepth 100000 in
theorem e_R_addressOf (hX : XT X) (fx : CallFix p m c b_R_addressOf 6 s args GW RNR) {post : Int32 → SS → Prop} (HR : RetI p l e r_R_addressOf s m args below meth c Q D vcl (tyl cA) (wR cA a) X A b_R_addressOf .int post) {σ : SS} {x1 : Int32} {H : Heap} {locs : List Loc} {ls : Array Slot} (h : f_R_addressOf post σ x1) (hw : CX D vcl (tyl cA) (wR cA a σ) X A s H locs) (hl : lv_has ls 6 [(0, .ref (a 0)), (1, .int x1)]) : W p l e r_R_addressOf s m args below meth c H locs 0 0 Q (F0 m 0 ls []) := by
  have hx := fx.1
  have hb := fx.2.1
  unfold f_R_addressOf at h
  refine lv_iload_n (pc := 0) hx hb d_R_addressOf_0 rfl (lv_at hl 1 rfl) ?_
  refine lv_sipush (pc := 1) (v := 256) hx hb d_R_addressOf_1 (by decide) ?_
  refine lv_irem (pc := 4) hx hb d_R_addressOf_4 (by decide) ?_
  refine lv_topi (fun x2_5 e9 => ?_)
  replace h := nm_u h e9
  clear e9
  refine lv_istore_n (pc := 5) (lv' := [(2, .int x2_5), (0, .ref (a 0)), (1, .int x1)]) hx hb d_R_addressOf_5 rfl hl (by decide) rfl (fun ls hl => ?_)
  refine lv_iload_n (pc := 6) hx hb d_R_addressOf_6 rfl (lv_at hl 2 rfl) ?_
  refine lv_sipush (pc := 7) (v := 256) hx hb d_R_addressOf_7 (by decide) ?_
  refine lv_idiv (pc := 10) hx hb d_R_addressOf_10 (by decide) ?_
  refine lv_iconst (pc := 11) (v := 4) hx hb d_R_addressOf_11 (by decide) ?_
  refine lv_irem (pc := 12) hx hb d_R_addressOf_12 (by decide) ?_
  refine lv_topi (fun x3_6 e9 => ?_)
  replace h := nm_u h e9
  clear e9
  refine lv_istore_n (pc := 13) (lv' := [(3, .int x3_6), (2, .int x2_5), (0, .ref (a 0)), (1, .int x1)]) hx hb d_R_addressOf_13 rfl hl (by decide) rfl (fun ls hl => ?_)
  refine lv_iload_n (pc := 14) hx hb d_R_addressOf_14 rfl (lv_at hl 0 rfl) ?_
  refine lv_if_ne (pc := 15) (tgt := 22) hx hb d_R_addressOf_15 (by decide) (fun c9 => ?_) (fun c9 => ?_)
  · replace h := h.2 c9
    refine lv_iload_n (pc := 22) hx hb d_R_addressOf_22 rfl (lv_at hl 0 rfl) ?_
    refine lv_iconst (pc := 23) (v := 1) hx hb d_R_addressOf_23 (by decide) ?_
    refine lv_icmp_ne (pc := 24) (tgt := 34) hx hb d_R_addressOf_24 (by decide) (fun c9 => ?_) (fun c9 => ?_)
    · replace h := h.2 c9
      refine lv_aload_n (pc := 34) hx hb d_R_addressOf_34 rfl (lv_at hl 2 rfl) ?_
      refine gR_0_accumulators (pc := 35) fx hw kw_1068 d_R_addressOf_35 ?_
      refine lv_iload_n (pc := 38) hx hb d_R_addressOf_38 rfl (lv_at hl 0 rfl) ?_
      refine alR_2 (pc := 39) fx hw h.1 d_R_addressOf_39 ?_
      replace h := h.2
      exact c_R_addressOf_40 hX fx HR h hw (lv_sub hl [2, 3, 1, 0] rfl)
    · replace h := h.1 c9
      refine lv_aload_n (pc := 27) hx hb d_R_addressOf_27 rfl (lv_at hl 2 rfl) ?_
      refine gR_0_pc (pc := 28) fx hw kw_1070 d_R_addressOf_28 ?_
      refine lv_goto (pc := 31) (tgt := 40) hx hb d_R_addressOf_31 (by decide) ?_
      exact c_R_addressOf_40 hX fx HR h hw (lv_sub hl [2, 3, 1, 0] rfl)
  · replace h := h.1 c9
    refine lv_iconst (pc := 18) (v := 0) hx hb d_R_addressOf_18 (by decide) ?_
    refine lv_goto (pc := 19) (tgt := 40) hx hb d_R_addressOf_19 (by decide) ?_
    exact c_R_addressOf_40 hX fx HR h hw (lv_sub hl [2, 3, 1, 0] rfl)
end
theorem c_R_addressOf {l : Launch} {D : va_G} {cA : Nat → ClassId} {a : Nat → Nat} {X : (Nat → Prop) → State → Prop} (hX : XT X) {σ : SS} {post : Int32 → SS → Prop} {x1 : Int32} (h : f_R_addressOf post σ x1) : mI l y_R_addressOf b_R_addressOf 6 (some .int) 2 46 D vcl (tyl cA) (wR cA a) X σ [.ref (a 0), .int x1] post := met_I (by decide) (Nat.le_of_ble_eq_true rfl) (fun p e s m args below meth c A Q fx HR H ls hw hl => e_R_addressOf hX fx HR h hw hl)
abbrev r_R_asks : Room := { frames := 0, cells := 0, slots := 0, locals := 0 }
def f_R_asks_18 (post : Int32 → SS → Prop) (σ : SS) (x1 : Int32) (s0 : Int32) : Prop := vp_in x1 3 ∧ br ((σ.2.1 5 x1.toNatClampNeg) = 0) (post 0 σ) (br ((((σ.1 5) >>> (s0 &&& 31)) &&& 1) = 0) (post 1 σ) (post 0 σ))
def f_R_asks (post : Int32 → SS → Prop) (σ : SS) (x1 : Int32) : Prop := br (x1 = 0) (f_R_asks_18 post σ x1 1) (br (x1 = 1) (f_R_asks_18 post σ x1 0) (f_R_asks_18 post σ x1 2))
section
variable {p : Program} {l : Launch} {e : Env} {s : State} {m : MethodId} {args : Array Value} {below : List Frame} {meth : Method} {c : Code} {Q : State → Prop} {D : va_G} {cA : Nat → ClassId} {a : Nat → Nat} {X : (Nat → Prop) → State → Prop} {A : Nat → Prop}
set_option maxHeartbeats 4000000 in
set_option maxRecDepth 100000 in
theorem c_R_asks_18 (hX : XT X) (fx : CallFix p m c b_R_asks 3 s args GW RNR) {post : Int32 → SS → Prop} (HR : RetI p l e r_R_asks s m args below meth c Q D vcl (tyl cA) (wR cA a) X A b_R_asks .boolean (fun r σ => bz r ∧ post r σ)) {σ : SS} {x1 : Int32} {s0 : Int32} {H : Heap} {locs : List Loc} {ls : Array Slot} (h : f_R_asks_18 post σ x1 s0) (hw : CX D vcl (tyl cA) (wR cA a σ) X A s H locs) (hl : lv_has ls 3 [(0, .ref (a 0)), (1, .int x1)]) : W p l e r_R_asks s m args below meth c H locs 0 0 Q (F0 m 18 ls [.int s0]) := by
  have hx := fx.1
  have hb := fx.2.1
  unfold f_R_asks_18 at h
  refine lv_istore_n (pc := 18) (lv' := [(2, .int s0), (0, .ref (a 0)), (1, .int x1)]) hx hb d_R_asks_18 rfl hl (by decide) rfl (fun ls hl => ?_)
  refine lv_aload_n (pc := 19) hx hb d_R_asks_19 rfl (lv_at hl 1 rfl) ?_
  refine gR_0_ready (pc := 20) fx hw kw_1080 d_R_asks_20 ?_
  refine lv_iload_n (pc := 23) hx hb d_R_asks_23 rfl (lv_at hl 2 rfl) ?_
  refine alR_5 (pc := 24) fx hw h.1 d_R_asks_24 ?_
  replace h := h.2
  refine lv_if_eq (pc := 25) (tgt := 43) hx hb d_R_asks_25 (by decide) (fun c9 => ?_) (fun c9 => ?_)
  · replace h := h.1 c9
    refine lv_iconst (pc := 43) (v := 0) hx hb d_R_asks_43 (by decide) ?_
    exact HR (bz_n bz_0) d_R_asks_44 ⟨bz_0, h⟩ hw
  · replace h := h.2 c9
    refine lv_aload_n (pc := 28) hx hb d_R_asks_28 rfl (lv_at hl 1 rfl) ?_
    refine gR_0_mask (pc := 29) fx hw kw_1074 d_R_asks_29 ?_
    refine lv_iload_n (pc := 32) hx hb d_R_asks_32 rfl (lv_at hl 0 rfl) ?_
    refine lv_ishr (pc := 33) hx hb d_R_asks_33 ?_
    refine lv_iconst (pc := 34) (v := 1) hx hb d_R_asks_34 (by decide) ?_
    refine lv_iand (pc := 35) hx hb d_R_asks_35 ?_
    refine lv_if_ne (pc := 36) (tgt := 43) hx hb d_R_asks_36 (by decide) (fun c9 => ?_) (fun c9 => ?_)
    · replace h := h.2 c9
      refine lv_iconst (pc := 43) (v := 0) hx hb d_R_asks_43 (by decide) ?_
      exact HR (bz_n bz_0) d_R_asks_44 ⟨bz_0, h⟩ hw
    · replace h := h.1 c9
      refine lv_iconst (pc := 39) (v := 1) hx hb d_R_asks_39 (by decide) ?_
      refine lv_goto (pc := 40) (tgt := 44) hx hb d_R_asks_40 (by decide) ?_
      exact HR (bz_n bz_1) d_R_asks_44 ⟨bz_1, h⟩ hw
set_option maxHeartbeats 4000000 in
set_option maxRecDepth 100000 in
theorem e_R_asks (hX : XT X) (fx : CallFix p m c b_R_asks 3 s args GW RNR) {post : Int32 → SS → Prop} (HR : RetI p l e r_R_asks s m args below meth c Q D vcl (tyl cA) (wR cA a) X A b_R_asks .boolean (fun r σ => bz r ∧ post r σ)) {σ : SS} {x1 : Int32} {H : Heap} {locs : List Loc} {ls : Array Slot} (h : f_R_asks post σ x1) (hw : CX D vcl (tyl cA) (wR cA a σ) X A s H locs) (hl : lv_has ls 3 [(0, .ref (a 0)), (1, .int x1)]) : W p l e r_R_asks s m args below meth c H locs 0 0 Q (F0 m 0 ls []) := by
  have hx := fx.1
  have hb := fx.2.1
  unfold f_R_asks at h
  refine lv_iload_n (pc := 0) hx hb d_R_asks_0 rfl (lv_at hl 1 rfl) ?_
  refine lv_if_ne (pc := 1) (tgt := 8) hx hb d_R_asks_1 (by decide) (fun c9 => ?_) (fun c9 => ?_)
  · replace h := h.2 c9
    refine lv_iload_n (pc := 8) hx hb d_R_asks_8 rfl (lv_at hl 1 rfl) ?_
    refine lv_iconst (pc := 9) (v := 1) hx hb d_R_asks_9 (by decide) ?_
    refine lv_icmp_ne (pc := 10) (tgt := 17) hx hb d_R_asks_10 (by decide) (fun c9 => ?_) (fun c9 => ?_)
    · replace h := h.2 c9
      refine lv_iconst (pc := 17) (v := 2) hx hb d_R_asks_17 (by decide) ?_
      exact c_R_asks_18 hX fx HR h hw (lv_sub hl [0, 1] rfl)
    · replace h := h.1 c9
      refine lv_iconst (pc := 13) (v := 0) hx hb d_R_asks_13 (by decide) ?_
      refine lv_goto (pc := 14) (tgt := 18) hx hb d_R_asks_14 (by decide) ?_
      exact c_R_asks_18 hX fx HR h hw (lv_sub hl [0, 1] rfl)
  · replace h := h.1 c9
    refine lv_iconst (pc := 4) (v := 1) hx hb d_R_asks_4 (by decide) ?_
    refine lv_goto (pc := 5) (tgt := 18) hx hb d_R_asks_5 (by decide) ?_
    exact c_R_asks_18 hX fx HR h hw (lv_sub hl [0, 1] rfl)
end
theorem c_R_asks {l : Launch} {D : va_G} {cA : Nat → ClassId} {a : Nat → Nat} {X : (Nat → Prop) → State → Prop} (hX : XT X) {σ : SS} {post : Int32 → SS → Prop} {x1 : Int32} (h : f_R_asks post σ x1) : mI l y_R_asks b_R_asks 3 (some .boolean) 0 0 D vcl (tyl cA) (wR cA a) X σ [.ref (a 0), .int x1] (fun r σ => bz r ∧ post r σ) := met_I (by decide) (Nat.le_of_ble_eq_true rfl) (fun p e s m args below meth c A Q fx HR H ls hw hl => e_R_asks hX fx HR h hw hl)
abbrev r_R_asking : Room := { frames := 1, cells := 0, slots := 0, locals := 22 }
def f_R_asking_2 (post : Int32 → SS → Prop) : Nat → SS → Int32 → Prop
  | 0, _, _ => False
  | n + 1, σ, x1 => br (3 ≤ x1) (post 0 σ) (f_R_asks (fun r_2 σ_1 => br (r_2 = 0) (nm (x1 + 1) fun x1_3 => f_R_asking_2 post n σ_1 x1_3) (post (8 + x1) σ_1)) σ x1)
def f_R_asking (post : Int32 → SS → Prop) (σ : SS) : Prop := ∃ n9, f_R_asking_2 post n9 σ 0
section
variable {p : Program} {l : Launch} {e : Env} {s : State} {m : MethodId} {args : Array Value} {below : List Frame} {meth : Method} {c : Code} {Q : State → Prop} {D : va_G} {cA : Nat → ClassId} {a : Nat → Nat} {X : (Nat → Prop) → State → Prop} {A : Nat → Prop}
set_option maxHeartbeats 4000000 in
set_option maxRecDepth 100000 in
theorem c_R_asking_2 (hX : XT X) (fx : CallFix p m c b_R_asking 2 s args GW RNR) {post : Int32 → SS → Prop} (HR : RetI p l e r_R_asking s m args below meth c Q D vcl (tyl cA) (wR cA a) X A b_R_asking .int post) : ∀ (n : Nat) {σ : SS} {x1 : Int32} {H : Heap} {locs : List Loc} {ls : Array Slot}, f_R_asking_2 post n σ x1 → CX D vcl (tyl cA) (wR cA a σ) X A s H locs → lv_has ls 2 [(0, .ref (a 0)), (1, .int x1)] → W p l e r_R_asking s m args below meth c H locs 0 0 Q (F0 m 2 ls []) := by
  have hx := fx.1
  have hb := fx.2.1
  intro n
  induction n with
  | zero => intro σ x1 H locs ls h; exact h.elim
  | succ n ih =>
    intro σ x1 H locs ls h hw hl
    have K2 := @ih
    unfold f_R_asking_2 at h
    refine lv_iload_n (pc := 2) hx hb d_R_asking_2 rfl (lv_at hl 1 rfl) ?_
    refine lv_iconst (pc := 3) (v := 3) hx hb d_R_asking_3 (by decide) ?_
    refine lv_icmp_ge (pc := 4) (tgt := 26) hx hb d_R_asking_4 (by decide) (fun c9 => ?_) (fun c9 => ?_)
    · replace h := h.1 c9
      refine lv_iconst (pc := 26) (v := 0) hx hb d_R_asking_26 (by decide) ?_
      exact HR rfl d_R_asking_27 h hw
    · replace h := h.2 c9
      refine lv_aload_n (pc := 7) hx hb d_R_asking_7 rfl (lv_at hl 0 rfl) ?_
      refine lv_iload_n (pc := 8) hx hb d_R_asking_8 rfl (lv_at hl 1 rfl) ?_
      refine cxI (pc := 9) hX fx hw (c_R_asks hX h) cw_R_142 (rcR_0 hw) rfl ⟨Nat.le_of_ble_eq_true rfl, Nat.le_of_ble_eq_true rfl⟩ hl.1 (Nat.le_of_ble_eq_true rfl) d_R_asking_9 ⟨Nat.zero_le _, Nat.zero_le _⟩ (fun r_2 σ_1 H locs hw h => ?_)
      have zr_2 := h.1
      replace h := h.2
      refine lv_if_eq (pc := 12) (tgt := 20) hx hb d_R_asking_12 (by decide) (fun c9 => ?_) (fun c9 => ?_)
      · replace h := h.1 c9
        obtain ⟨x1_3, e9⟩ : ∃ z : Int32, z = x1 + 1 := ⟨_, rfl⟩
        replace h := nm_u h e9
        refine lv_iinc (pc := 20) (v := x1_3) (lv' := [(1, .int x1_3), (0, .ref (a 0))]) hx hb d_R_asking_20 hl (k := 1) rfl (by rw [e9]; rfl) (by decide) rfl (fun ls hl => ?_)
        clear e9
        refine lv_goto (pc := 23) (tgt := 2) hx hb d_R_asking_23 (by decide) ?_
        exact K2 h hw (lv_sub hl [1, 0] rfl)
      · replace h := h.2 c9
        refine lv_bipush (pc := 15) (v := 8) hx hb d_R_asking_15 (by decide) ?_
        refine lv_iload_n (pc := 17) hx hb d_R_asking_17 rfl (lv_at hl 1 rfl) ?_
        refine lv_iadd (pc := 18) hx hb d_R_asking_18 ?_
        exact HR rfl d_R_asking_19 h hw
set_option maxHeartbeats 4000000 in
set_option maxRecDepth 100000 in
theorem e_R_asking (hX : XT X) (fx : CallFix p m c b_R_asking 2 s args GW RNR) {post : Int32 → SS → Prop} (HR : RetI p l e r_R_asking s m args below meth c Q D vcl (tyl cA) (wR cA a) X A b_R_asking .int post) {σ : SS} {H : Heap} {locs : List Loc} {ls : Array Slot} (h : f_R_asking post σ) (hw : CX D vcl (tyl cA) (wR cA a σ) X A s H locs) (hl : lv_has ls 2 [(0, .ref (a 0))]) : W p l e r_R_asking s m args below meth c H locs 0 0 Q (F0 m 0 ls []) := by
  have hx := fx.1
  have hb := fx.2.1
  unfold f_R_asking at h
  refine lv_iconst (pc := 0) (v := 0) hx hb d_R_asking_0 (by decide) ?_
  refine lv_istore_n (pc := 1) (lv' := [(1, .int 0), (0, .ref (a 0))]) hx hb d_R_asking_1 rfl hl (by decide) rfl (fun ls hl => ?_)
  obtain ⟨n9, h⟩ := h
  exact c_R_asking_2 hX fx HR n9 h hw (lv_sub hl [1, 0] rfl)
end
theorem c_R_asking {l : Launch} {D : va_G} {cA : Nat → ClassId} {a : Nat → Nat} {X : (Nat → Prop) → State → Prop} (hX : XT X) {σ : SS} {post : Int32 → SS → Prop} (h : f_R_asking post σ) : mI l y_R_asking b_R_asking 2 (some .int) 1 22 D vcl (tyl cA) (wR cA a) X σ [.ref (a 0)] post := met_I (by decide) (Nat.le_of_ble_eq_true rfl) (fun p e s m args below meth c A Q fx HR H ls hw hl => e_R_asking hX fx HR h hw hl)
abbrev r_R_reckons : Room := { frames := 0, cells := 0, slots := 0, locals := 0 }
def f_R_reckons_444 (post : Int32 → SS → Prop) (σ : SS) (x9 : Int32) (s0 : Int32) : Prop := br (s0 = x9) (post 1 σ) (post 0 σ)
def f_R_reckons_430 (post : Int32 → SS → Prop) (σ : SS) (x8 : Int32) (s0 : Int32) : Prop := br ((x8 - x8 / 2 * 2) = 0) (f_R_reckons_444 post σ s0 1) (f_R_reckons_444 post σ s0 0)
def f_R_reckons_349 (post : Int32 → SS → Prop) (σ : SS) (x1 : Int32) (x4 : Int32) (x6 : Int32) : Prop := nm (x1 - x1 / 8 * 8) fun x8_1 => br (2 ≤ x8_1) (br ((x8_1 / 2) = 1) (br (x4 = 0) (f_R_reckons_430 post σ x8_1 1) (f_R_reckons_430 post σ x8_1 0)) (br ((x8_1 / 2) = 2) (br (x6 = 0) (f_R_reckons_430 post σ x8_1 1) (f_R_reckons_430 post σ x8_1 0)) (br (x4 = 0) (f_R_reckons_430 post σ x8_1 1) (br (x6 = 0) (f_R_reckons_430 post σ x8_1 1) (f_R_reckons_430 post σ x8_1 0))))) (br (x8_1 = 1) (post 1 σ) (post 0 σ))
def f_R_reckons_320 (post : Int32 → SS → Prop) (σ : SS) (x1 : Int32) (x4 : Int32) (x6 : Int32) : Prop := br (((x1 / 8) - (x1 / 8) / 2 * 2) = 0) (vp_in ((x1 / 2048) - (x1 / 2048) / 4 * 4) 4 ∧ nm (sA σ 2 ((x1 / 2048) - (x1 / 2048) / 4 * 4).toNatClampNeg x6) fun σ_2 => nm (sI σ_2 0 x4) fun σ_3 => f_R_reckons_349 post σ_3 x1 x4 x6) (f_R_reckons_349 post σ x1 x4 x6)
def f_R_reckons_215 (post : Int32 → SS → Prop) (σ : SS) (x1 : Int32) (x6 : Int32) (s0 : Int32) : Prop := nm (x6 - x6 / 65536 * 65536) fun x6_4 => nm ((x1 / 64) - (x1 / 64) / 4 * 4) fun x7_5 => br (x7_5 = 1) (nm ((2 * x6_4) + s0) fun x8_9 => nm (x8_9 - x8_9 / 65536 * 65536) fun x6_10 => nm (x8_9 / 65536) fun x4_11 => f_R_reckons_320 post σ x1 x4_11 x6_10) (br (x7_5 = 2) (nm (x6_4 - x6_4 / 2 * 2) fun x8_7 => nm ((x6_4 / 2) + (s0 * 32768)) fun x6_8 => f_R_reckons_320 post σ x1 x8_7 x6_8) (br (x7_5 = 3) (nm (((x6_4 - x6_4 / 256 * 256) * 256) + (x6_4 / 256)) fun x6_6 => f_R_reckons_320 post σ x1 s0 x6_6) (f_R_reckons_320 post σ x1 s0 x6_4)))
def f_R_reckons_199 (post : Int32 → SS → Prop) (σ : SS) (x1 : Int32) (x4 : Int32) (x6 : Int32) : Prop := br (x6 < 65536) (f_R_reckons_215 post σ x1 x6 x4) (f_R_reckons_215 post σ x1 x6 (1 - x4))
def f_R_reckons_76 (post : Int32 → SS → Prop) (σ : SS) (x1 : Int32) (x2 : Int32) (x3 : Int32) (s0 : Int32) : Prop := nm (65535 - x2) fun x5_12 => nm ((x1 / 256) - (x1 / 256) / 8 * 8) fun xs_13 => br (xs_13 = (0 : Int32)) (f_R_reckons_199 post σ x1 s0 x5_12) (br (xs_13 = (1 : Int32)) (nm (x5_12 + 1) fun x6_16 => f_R_reckons_199 post σ x1 s0 x6_16) (br (xs_13 = (2 : Int32)) (f_R_reckons_199 post σ x1 s0 x2) (br (xs_13 = (3 : Int32)) (nm (x2 + 1) fun x6_19 => f_R_reckons_199 post σ x1 s0 x6_19) (br (xs_13 = (4 : Int32)) (nm (x3 + x5_12) fun x6_21 => f_R_reckons_199 post σ x1 s0 x6_21) (br (xs_13 = (5 : Int32)) (nm ((x3 + x5_12) + 1) fun x6_23 => f_R_reckons_199 post σ x1 s0 x6_23) (br (xs_13 = (6 : Int32)) (nm (x3 + x2) fun x6_25 => f_R_reckons_199 post σ x1 s0 x6_25) (nm (x3 &&& x2) fun x6_26 => f_R_reckons_199 post σ x1 s0 x6_26)))))))
def f_R_reckons (post : Int32 → SS → Prop) (σ : SS) (x1 : Int32) : Prop := vp_in ((x1 / 8192) - (x1 / 8192) / 4 * 4) 4 ∧ nm (σ.2.1 2 ((x1 / 8192) - (x1 / 8192) / 4 * 4).toNatClampNeg) fun x2_27 => vp_in ((x1 / 2048) - (x1 / 2048) / 4 * 4) 4 ∧ nm (σ.2.1 2 ((x1 / 2048) - (x1 / 2048) / 4 * 4).toNatClampNeg) fun x3_28 => br (((x1 / 16) - (x1 / 16) / 4 * 4) = 0) (f_R_reckons_76 post σ x1 x2_27 x3_28 (σ.1 0)) (br (((x1 / 16) - (x1 / 16) / 4 * 4) = 1) (f_R_reckons_76 post σ x1 x2_27 x3_28 0) (br (((x1 / 16) - (x1 / 16) / 4 * 4) = 2) (f_R_reckons_76 post σ x1 x2_27 x3_28 1) (f_R_reckons_76 post σ x1 x2_27 x3_28 (1 - (σ.1 0)))))
section
variable {p : Program} {l : Launch} {e : Env} {s : State} {m : MethodId} {args : Array Value} {below : List Frame} {meth : Method} {c : Code} {Q : State → Prop} {D : va_G} {cA : Nat → ClassId} {a : Nat → Nat} {X : (Nat → Prop) → State → Prop} {A : Nat → Prop}
set_option maxHeartbeats 4000000 in
set_option maxRecDepth 100000 in
theorem c_R_reckons_444 (hX : XT X) (fx : CallFix p m c b_R_reckons 10 s args GW RNR) {post : Int32 → SS → Prop} (HR : RetI p l e r_R_reckons s m args below meth c Q D vcl (tyl cA) (wR cA a) X A b_R_reckons .boolean (fun r σ => bz r ∧ post r σ)) {σ : SS} {x9 : Int32} {s0 : Int32} {H : Heap} {locs : List Loc} {ls : Array Slot} (h : f_R_reckons_444 post σ x9 s0) (hw : CX D vcl (tyl cA) (wR cA a σ) X A s H locs) (hl : lv_has ls 10 [(9, .int x9)]) : W p l e r_R_reckons s m args below meth c H locs 0 0 Q (F0 m 444 ls [.int s0]) := by
  have hx := fx.1
  have hb := fx.2.1
  unfold f_R_reckons_444 at h
  refine lv_iload (pc := 444) hx hb d_R_reckons_444 (lv_at hl 0 rfl) ?_
  refine lv_icmp_ne (pc := 446) (tgt := 453) hx hb d_R_reckons_446 (by decide) (fun c9 => ?_) (fun c9 => ?_)
  · replace h := h.2 c9
    refine lv_iconst (pc := 453) (v := 0) hx hb d_R_reckons_453 (by decide) ?_
    exact HR (bz_n bz_0) d_R_reckons_454 ⟨bz_0, h⟩ hw
  · replace h := h.1 c9
    refine lv_iconst (pc := 449) (v := 1) hx hb d_R_reckons_449 (by decide) ?_
    refine lv_goto (pc := 450) (tgt := 454) hx hb d_R_reckons_450 (by decide) ?_
    exact HR (bz_n bz_1) d_R_reckons_454 ⟨bz_1, h⟩ hw
set_option maxHeartbeats 4000000 in
set_option maxRecDepth 100000 in
theorem c_R_reckons_430 (hX : XT X) (fx : CallFix p m c b_R_reckons 10 s args GW RNR) {post : Int32 → SS → Prop} (HR : RetI p l e r_R_reckons s m args below meth c Q D vcl (tyl cA) (wR cA a) X A b_R_reckons .boolean (fun r σ => bz r ∧ post r σ)) {σ : SS} {x8 : Int32} {s0 : Int32} {H : Heap} {locs : List Loc} {ls : Array Slot} (h : f_R_reckons_430 post σ x8 s0) (hw : CX D vcl (tyl cA) (wR cA a σ) X A s H locs) (hl : lv_has ls 10 [(8, .int x8)]) : W p l e r_R_reckons s m args below meth c H locs 0 0 Q (F0 m 430 ls [.int s0]) := by
  have hx := fx.1
  have hb := fx.2.1
  unfold f_R_reckons_430 at h
  refine lv_istore (pc := 430) (lv' := [(9, .int s0), (8, .int x8)]) hx hb d_R_reckons_430 hl (by decide) rfl (fun ls hl => ?_)
  refine lv_iload (pc := 432) hx hb d_R_reckons_432 (lv_at hl 1 rfl) ?_
  refine lv_iconst (pc := 434) (v := 2) hx hb d_R_reckons_434 (by decide) ?_
  refine lv_irem (pc := 435) hx hb d_R_reckons_435 (by decide) ?_
  refine lv_if_ne (pc := 436) (tgt := 443) hx hb d_R_reckons_436 (by decide) (fun c9 => ?_) (fun c9 => ?_)
  · replace h := h.2 c9
    refine lv_iconst (pc := 443) (v := 0) hx hb d_R_reckons_443 (by decide) ?_
    exact c_R_reckons_444 hX fx HR h hw (lv_sub hl [0] rfl)
  · replace h := h.1 c9
    refine lv_iconst (pc := 439) (v := 1) hx hb d_R_reckons_439 (by decide) ?_
    refine lv_goto (pc := 440) (tgt := 444) hx hb d_R_reckons_440 (by decide) ?_
    exact c_R_reckons_444 hX fx HR h hw (lv_sub hl [0] rfl)
set_option maxHeartbeats 4000000 in
set_option maxRecDepth 100000 in
theorem c_R_reckons_349 (hX : XT X) (fx : CallFix p m c b_R_reckons 10 s args GW RNR) {post : Int32 → SS → Prop} (HR : RetI p l e r_R_reckons s m args below meth c Q D vcl (tyl cA) (wR cA a) X A b_R_reckons .boolean (fun r σ => bz r ∧ post r σ)) {σ : SS} {x1 : Int32} {x4 : Int32} {x6 : Int32} {H : Heap} {locs : List Loc} {ls : Array Slot} (h : f_R_reckons_349 post σ x1 x4 x6) (hw : CX D vcl (tyl cA) (wR cA a σ) X A s H locs) (hl : lv_has ls 10 [(1, .int x1), (4, .int x4), (6, .int x6)]) : W p l e r_R_reckons s m args below meth c H locs 0 0 Q (F0 m 349 ls []) := by
  have hx := fx.1
  have hb := fx.2.1
  unfold f_R_reckons_349 at h
  refine lv_iload_n (pc := 349) hx hb d_R_reckons_349 rfl (lv_at hl 0 rfl) ?_
  refine lv_bipush (pc := 350) (v := 8) hx hb d_R_reckons_350 (by decide) ?_
  refine lv_irem (pc := 352) hx hb d_R_reckons_352 (by decide) ?_
  refine lv_topi (fun x8_1 e9 => ?_)
  replace h := nm_u h e9
  clear e9
  refine lv_istore (pc := 353) (lv' := [(8, .int x8_1), (1, .int x1), (4, .int x4), (6, .int x6)]) hx hb d_R_reckons_353 hl (by decide) rfl (fun ls hl => ?_)
  refine lv_iload (pc := 355) hx hb d_R_reckons_355 (lv_at hl 0 rfl) ?_
  refine lv_iconst (pc := 357) (v := 2) hx hb d_R_reckons_357 (by decide) ?_
  refine lv_icmp_ge (pc := 358) (tgt := 373) hx hb d_R_reckons_358 (by decide) (fun c9 => ?_) (fun c9 => ?_)
  · replace h := h.1 c9
    refine lv_iload (pc := 373) hx hb d_R_reckons_373 (lv_at hl 0 rfl) ?_
    refine lv_iconst (pc := 375) (v := 2) hx hb d_R_reckons_375 (by decide) ?_
    refine lv_idiv (pc := 376) hx hb d_R_reckons_376 (by decide) ?_
    refine lv_iconst (pc := 377) (v := 1) hx hb d_R_reckons_377 (by decide) ?_
    refine lv_icmp_ne (pc := 378) (tgt := 394) hx hb d_R_reckons_378 (by decide) (fun c9 => ?_) (fun c9 => ?_)
    · replace h := h.2 c9
      refine lv_iload (pc := 394) hx hb d_R_reckons_394 (lv_at hl 0 rfl) ?_
      refine lv_iconst (pc := 396) (v := 2) hx hb d_R_reckons_396 (by decide) ?_
      refine lv_idiv (pc := 397) hx hb d_R_reckons_397 (by decide) ?_
      refine lv_iconst (pc := 398) (v := 2) hx hb d_R_reckons_398 (by decide) ?_
      refine lv_icmp_ne (pc := 399) (tgt := 415) hx hb d_R_reckons_399 (by decide) (fun c9 => ?_) (fun c9 => ?_)
      · replace h := h.2 c9
        refine lv_iload (pc := 415) hx hb d_R_reckons_415 (lv_at hl 2 rfl) ?_
        refine lv_if_eq (pc := 417) (tgt := 425) hx hb d_R_reckons_417 (by decide) (fun c9 => ?_) (fun c9 => ?_)
        · replace h := h.1 c9
          refine lv_iconst (pc := 425) (v := 1) hx hb d_R_reckons_425 (by decide) ?_
          refine lv_goto (pc := 426) (tgt := 430) hx hb d_R_reckons_426 (by decide) ?_
          exact c_R_reckons_430 hX fx HR h hw (lv_sub hl [0] rfl)
        · replace h := h.2 c9
          refine lv_iload (pc := 420) hx hb d_R_reckons_420 (lv_at hl 3 rfl) ?_
          refine lv_if_ne (pc := 422) (tgt := 429) hx hb d_R_reckons_422 (by decide) (fun c9 => ?_) (fun c9 => ?_)
          · replace h := h.2 c9
            refine lv_iconst (pc := 429) (v := 0) hx hb d_R_reckons_429 (by decide) ?_
            exact c_R_reckons_430 hX fx HR h hw (lv_sub hl [0] rfl)
          · replace h := h.1 c9
            refine lv_iconst (pc := 425) (v := 1) hx hb d_R_reckons_425 (by decide) ?_
            refine lv_goto (pc := 426) (tgt := 430) hx hb d_R_reckons_426 (by decide) ?_
            exact c_R_reckons_430 hX fx HR h hw (lv_sub hl [0] rfl)
      · replace h := h.1 c9
        refine lv_iload (pc := 402) hx hb d_R_reckons_402 (lv_at hl 3 rfl) ?_
        refine lv_if_ne (pc := 404) (tgt := 411) hx hb d_R_reckons_404 (by decide) (fun c9 => ?_) (fun c9 => ?_)
        · replace h := h.2 c9
          refine lv_iconst (pc := 411) (v := 0) hx hb d_R_reckons_411 (by decide) ?_
          refine lv_goto (pc := 412) (tgt := 430) hx hb d_R_reckons_412 (by decide) ?_
          exact c_R_reckons_430 hX fx HR h hw (lv_sub hl [0] rfl)
        · replace h := h.1 c9
          refine lv_iconst (pc := 407) (v := 1) hx hb d_R_reckons_407 (by decide) ?_
          refine lv_goto (pc := 408) (tgt := 430) hx hb d_R_reckons_408 (by decide) ?_
          exact c_R_reckons_430 hX fx HR h hw (lv_sub hl [0] rfl)
    · replace h := h.1 c9
      refine lv_iload (pc := 381) hx hb d_R_reckons_381 (lv_at hl 2 rfl) ?_
      refine lv_if_ne (pc := 383) (tgt := 390) hx hb d_R_reckons_383 (by decide) (fun c9 => ?_) (fun c9 => ?_)
      · replace h := h.2 c9
        refine lv_iconst (pc := 390) (v := 0) hx hb d_R_reckons_390 (by decide) ?_
        refine lv_goto (pc := 391) (tgt := 430) hx hb d_R_reckons_391 (by decide) ?_
        exact c_R_reckons_430 hX fx HR h hw (lv_sub hl [0] rfl)
      · replace h := h.1 c9
        refine lv_iconst (pc := 386) (v := 1) hx hb d_R_reckons_386 (by decide) ?_
        refine lv_goto (pc := 387) (tgt := 430) hx hb d_R_reckons_387 (by decide) ?_
        exact c_R_reckons_430 hX fx HR h hw (lv_sub hl [0] rfl)
  · replace h := h.2 c9
    refine lv_iload (pc := 361) hx hb d_R_reckons_361 (lv_at hl 0 rfl) ?_
    refine lv_iconst (pc := 363) (v := 1) hx hb d_R_reckons_363 (by decide) ?_
    refine lv_icmp_ne (pc := 364) (tgt := 371) hx hb d_R_reckons_364 (by decide) (fun c9 => ?_) (fun c9 => ?_)
    · replace h := h.2 c9
      refine lv_iconst (pc := 371) (v := 0) hx hb d_R_reckons_371 (by decide) ?_
      exact HR (bz_n bz_0) d_R_reckons_372 ⟨bz_0, h⟩ hw
    · replace h := h.1 c9
      refine lv_iconst (pc := 367) (v := 1) hx hb d_R_reckons_367 (by decide) ?_
      refine lv_goto (pc := 368) (tgt := 372) hx hb d_R_reckons_368 (by decide) ?_
      exact HR (bz_n bz_1) d_R_reckons_372 ⟨bz_1, h⟩ hw
set_option maxHeartbeats 4000000 in
set_option maxRecDepth 100000 in
theorem c_R_reckons_320 (hX : XT X) (fx : CallFix p m c b_R_reckons 10 s args GW RNR) {post : Int32 → SS → Prop} (HR : RetI p l e r_R_reckons s m args below meth c Q D vcl (tyl cA) (wR cA a) X A b_R_reckons .boolean (fun r σ => bz r ∧ post r σ)) {σ : SS} {x1 : Int32} {x4 : Int32} {x6 : Int32} {H : Heap} {locs : List Loc} {ls : Array Slot} (h : f_R_reckons_320 post σ x1 x4 x6) (hw : CX D vcl (tyl cA) (wR cA a σ) X A s H locs) (hl : lv_has ls 10 [(0, .ref (a 0)), (1, .int x1), (4, .int x4), (6, .int x6)]) : W p l e r_R_reckons s m args below meth c H locs 0 0 Q (F0 m 320 ls []) := by
  have hx := fx.1
  have hb := fx.2.1
  unfold f_R_reckons_320 at h
  refine lv_iload_n (pc := 320) hx hb d_R_reckons_320 rfl (lv_at hl 1 rfl) ?_
  refine lv_bipush (pc := 321) (v := 8) hx hb d_R_reckons_321 (by decide) ?_
  refine lv_idiv (pc := 323) hx hb d_R_reckons_323 (by decide) ?_
  refine lv_iconst (pc := 324) (v := 2) hx hb d_R_reckons_324 (by decide) ?_
  refine lv_irem (pc := 325) hx hb d_R_reckons_325 (by decide) ?_
  refine lv_if_ne (pc := 326) (tgt := 349) hx hb d_R_reckons_326 (by decide) (fun c9 => ?_) (fun c9 => ?_)
  · replace h := h.2 c9
    exact c_R_reckons_349 hX fx HR h hw (lv_sub hl [1, 2, 3] rfl)
  · replace h := h.1 c9
    refine lv_aload_n (pc := 329) hx hb d_R_reckons_329 rfl (lv_at hl 0 rfl) ?_
    refine gR_0_accumulators (pc := 330) fx hw kw_1068 d_R_reckons_330 ?_
    refine lv_iload_n (pc := 333) hx hb d_R_reckons_333 rfl (lv_at hl 1 rfl) ?_
    refine lv_sipush (pc := 334) (v := 2048) hx hb d_R_reckons_334 (by decide) ?_
    refine lv_idiv (pc := 337) hx hb d_R_reckons_337 (by decide) ?_
    refine lv_iconst (pc := 338) (v := 4) hx hb d_R_reckons_338 (by decide) ?_
    refine lv_irem (pc := 339) hx hb d_R_reckons_339 (by decide) ?_
    refine lv_iload (pc := 340) hx hb d_R_reckons_340 (lv_at hl 3 rfl) ?_
    refine asR_2 (pc := 342) fx hw h.1 d_R_reckons_342 (fun σ_2 e9 H locs hw => ?_)
    replace h := nm_u h.2 e9
    clear e9
    refine lv_aload_n (pc := 343) hx hb d_R_reckons_343 rfl (lv_at hl 0 rfl) ?_
    refine lv_iload (pc := 344) hx hb d_R_reckons_344 (lv_at hl 2 rfl) ?_
    refine pR_0_carry (pc := 346) fx hw kw_1069 d_R_reckons_346 (fun σ_3 e9 H locs hw => ?_)
    replace h := nm_u h e9
    clear e9
    exact c_R_reckons_349 hX fx HR h hw (lv_sub hl [1, 2, 3] rfl)
set_option maxHeartbeats 4000000 in
set_option maxRecDepth 100000 in
theorem c_R_reckons_215 (hX : XT X) (fx : CallFix p m c b_R_reckons 10 s args GW RNR) {post : Int32 → SS → Prop} (HR : RetI p l e r_R_reckons s m args below meth c Q D vcl (tyl cA) (wR cA a) X A b_R_reckons .boolean (fun r σ => bz r ∧ post r σ)) {σ : SS} {x1 : Int32} {x6 : Int32} {s0 : Int32} {H : Heap} {locs : List Loc} {ls : Array Slot} (h : f_R_reckons_215 post σ x1 x6 s0) (hw : CX D vcl (tyl cA) (wR cA a σ) X A s H locs) (hl : lv_has ls 10 [(0, .ref (a 0)), (1, .int x1), (6, .int x6)]) : W p l e r_R_reckons s m args below meth c H locs 0 0 Q (F0 m 215 ls [.int s0]) := by
  have hx := fx.1
  have hb := fx.2.1
  unfold f_R_reckons_215 at h
  refine lv_istore (pc := 215) (lv' := [(4, .int s0), (0, .ref (a 0)), (1, .int x1), (6, .int x6)]) hx hb d_R_reckons_215 hl (by decide) rfl (fun ls hl => ?_)
  refine lv_iload (pc := 217) hx hb d_R_reckons_217 (lv_at hl 3 rfl) ?_
  refine lv_ldc (pc := 219) (v := 65536) hx hb fx.2.2.2.1 (fx.2.2.2.2 _ kw_1288) d_R_reckons_219 ?_
  refine lv_irem (pc := 221) hx hb d_R_reckons_221 (by decide) ?_
  refine lv_topi (fun x6_4 e9 => ?_)
  replace h := nm_u h e9
  clear e9
  refine lv_istore (pc := 222) (lv' := [(6, .int x6_4), (4, .int s0), (0, .ref (a 0)), (1, .int x1)]) hx hb d_R_reckons_222 hl (by decide) rfl (fun ls hl => ?_)
  refine lv_iload_n (pc := 224) hx hb d_R_reckons_224 rfl (lv_at hl 3 rfl) ?_
  refine lv_bipush (pc := 225) (v := 64) hx hb d_R_reckons_225 (by decide) ?_
  refine lv_idiv (pc := 227) hx hb d_R_reckons_227 (by decide) ?_
  refine lv_iconst (pc := 228) (v := 4) hx hb d_R_reckons_228 (by decide) ?_
  refine lv_irem (pc := 229) hx hb d_R_reckons_229 (by decide) ?_
  refine lv_topi (fun x7_5 e9 => ?_)
  replace h := nm_u h e9
  clear e9
  refine lv_istore (pc := 230) (lv' := [(7, .int x7_5), (6, .int x6_4), (4, .int s0), (0, .ref (a 0)), (1, .int x1)]) hx hb d_R_reckons_230 hl (by decide) rfl (fun ls hl => ?_)
  refine lv_iload (pc := 232) hx hb d_R_reckons_232 (lv_at hl 0 rfl) ?_
  refine lv_iconst (pc := 234) (v := 1) hx hb d_R_reckons_234 (by decide) ?_
  refine lv_icmp_ne (pc := 235) (tgt := 264) hx hb d_R_reckons_235 (by decide) (fun c9 => ?_) (fun c9 => ?_)
  · replace h := h.2 c9
    refine lv_iload (pc := 264) hx hb d_R_reckons_264 (lv_at hl 0 rfl) ?_
    refine lv_iconst (pc := 266) (v := 2) hx hb d_R_reckons_266 (by decide) ?_
    refine lv_icmp_ne (pc := 267) (tgt := 295) hx hb d_R_reckons_267 (by decide) (fun c9 => ?_) (fun c9 => ?_)
    · replace h := h.2 c9
      refine lv_iload (pc := 295) hx hb d_R_reckons_295 (lv_at hl 0 rfl) ?_
      refine lv_iconst (pc := 297) (v := 3) hx hb d_R_reckons_297 (by decide) ?_
      refine lv_icmp_ne (pc := 298) (tgt := 320) hx hb d_R_reckons_298 (by decide) (fun c9 => ?_) (fun c9 => ?_)
      · replace h := h.2 c9
        exact c_R_reckons_320 hX fx HR h hw (lv_sub hl [3, 4, 2, 1] rfl)
      · replace h := h.1 c9
        refine lv_iload (pc := 301) hx hb d_R_reckons_301 (lv_at hl 1 rfl) ?_
        refine lv_sipush (pc := 303) (v := 256) hx hb d_R_reckons_303 (by decide) ?_
        refine lv_irem (pc := 306) hx hb d_R_reckons_306 (by decide) ?_
        refine lv_sipush (pc := 307) (v := 256) hx hb d_R_reckons_307 (by decide) ?_
        refine lv_imul (pc := 310) hx hb d_R_reckons_310 ?_
        refine lv_iload (pc := 311) hx hb d_R_reckons_311 (lv_at hl 1 rfl) ?_
        refine lv_sipush (pc := 313) (v := 256) hx hb d_R_reckons_313 (by decide) ?_
        refine lv_idiv (pc := 316) hx hb d_R_reckons_316 (by decide) ?_
        refine lv_iadd (pc := 317) hx hb d_R_reckons_317 ?_
        refine lv_topi (fun x6_6 e9 => ?_)
        replace h := nm_u h e9
        clear e9
        refine lv_istore (pc := 318) (lv' := [(6, .int x6_6), (7, .int x7_5), (4, .int s0), (0, .ref (a 0)), (1, .int x1)]) hx hb d_R_reckons_318 hl (by decide) rfl (fun ls hl => ?_)
        exact c_R_reckons_320 hX fx HR h hw (lv_sub hl [3, 4, 2, 0] rfl)
    · replace h := h.1 c9
      refine lv_iload (pc := 270) hx hb d_R_reckons_270 (lv_at hl 1 rfl) ?_
      refine lv_iconst (pc := 272) (v := 2) hx hb d_R_reckons_272 (by decide) ?_
      refine lv_irem (pc := 273) hx hb d_R_reckons_273 (by decide) ?_
      refine lv_topi (fun x8_7 e9 => ?_)
      replace h := nm_u h e9
      clear e9
      refine lv_istore (pc := 274) (lv' := [(8, .int x8_7), (7, .int x7_5), (6, .int x6_4), (4, .int s0), (0, .ref (a 0)), (1, .int x1)]) hx hb d_R_reckons_274 hl (by decide) rfl (fun ls hl => ?_)
      refine lv_iload (pc := 276) hx hb d_R_reckons_276 (lv_at hl 2 rfl) ?_
      refine lv_iconst (pc := 278) (v := 2) hx hb d_R_reckons_278 (by decide) ?_
      refine lv_idiv (pc := 279) hx hb d_R_reckons_279 (by decide) ?_
      refine lv_iload (pc := 280) hx hb d_R_reckons_280 (lv_at hl 3 rfl) ?_
      refine lv_ldc (pc := 282) (v := 32768) hx hb fx.2.2.2.1 (fx.2.2.2.2 _ kw_1066) d_R_reckons_282 ?_
      refine lv_imul (pc := 284) hx hb d_R_reckons_284 ?_
      refine lv_iadd (pc := 285) hx hb d_R_reckons_285 ?_
      refine lv_topi (fun x6_8 e9 => ?_)
      replace h := nm_u h e9
      clear e9
      refine lv_istore (pc := 286) (lv' := [(6, .int x6_8), (8, .int x8_7), (7, .int x7_5), (4, .int s0), (0, .ref (a 0)), (1, .int x1)]) hx hb d_R_reckons_286 hl (by decide) rfl (fun ls hl => ?_)
      refine lv_iload (pc := 288) hx hb d_R_reckons_288 (lv_at hl 1 rfl) ?_
      refine lv_istore (pc := 290) (lv' := [(4, .int x8_7), (6, .int x6_8), (8, .int x8_7), (7, .int x7_5), (0, .ref (a 0)), (1, .int x1)]) hx hb d_R_reckons_290 hl (by decide) rfl (fun ls hl => ?_)
      refine lv_goto (pc := 292) (tgt := 320) hx hb d_R_reckons_292 (by decide) ?_
      exact c_R_reckons_320 hX fx HR h hw (lv_sub hl [4, 5, 0, 1] rfl)
  · replace h := h.1 c9
    refine lv_iconst (pc := 238) (v := 2) hx hb d_R_reckons_238 (by decide) ?_
    refine lv_iload (pc := 239) hx hb d_R_reckons_239 (lv_at hl 1 rfl) ?_
    refine lv_imul (pc := 241) hx hb d_R_reckons_241 ?_
    refine lv_iload (pc := 242) hx hb d_R_reckons_242 (lv_at hl 2 rfl) ?_
    refine lv_iadd (pc := 244) hx hb d_R_reckons_244 ?_
    refine lv_topi (fun x8_9 e9 => ?_)
    replace h := nm_u h e9
    clear e9
    refine lv_istore (pc := 245) (lv' := [(8, .int x8_9), (7, .int x7_5), (6, .int x6_4), (4, .int s0), (0, .ref (a 0)), (1, .int x1)]) hx hb d_R_reckons_245 hl (by decide) rfl (fun ls hl => ?_)
    refine lv_iload (pc := 247) hx hb d_R_reckons_247 (lv_at hl 0 rfl) ?_
    refine lv_ldc (pc := 249) (v := 65536) hx hb fx.2.2.2.1 (fx.2.2.2.2 _ kw_1288) d_R_reckons_249 ?_
    refine lv_irem (pc := 251) hx hb d_R_reckons_251 (by decide) ?_
    refine lv_topi (fun x6_10 e9 => ?_)
    replace h := nm_u h e9
    clear e9
    refine lv_istore (pc := 252) (lv' := [(6, .int x6_10), (8, .int x8_9), (7, .int x7_5), (4, .int s0), (0, .ref (a 0)), (1, .int x1)]) hx hb d_R_reckons_252 hl (by decide) rfl (fun ls hl => ?_)
    refine lv_iload (pc := 254) hx hb d_R_reckons_254 (lv_at hl 1 rfl) ?_
    refine lv_ldc (pc := 256) (v := 65536) hx hb fx.2.2.2.1 (fx.2.2.2.2 _ kw_1288) d_R_reckons_256 ?_
    refine lv_idiv (pc := 258) hx hb d_R_reckons_258 (by decide) ?_
    refine lv_topi (fun x4_11 e9 => ?_)
    replace h := nm_u h e9
    clear e9
    refine lv_istore (pc := 259) (lv' := [(4, .int x4_11), (6, .int x6_10), (8, .int x8_9), (7, .int x7_5), (0, .ref (a 0)), (1, .int x1)]) hx hb d_R_reckons_259 hl (by decide) rfl (fun ls hl => ?_)
    refine lv_goto (pc := 261) (tgt := 320) hx hb d_R_reckons_261 (by decide) ?_
    exact c_R_reckons_320 hX fx HR h hw (lv_sub hl [4, 5, 0, 1] rfl)
set_option maxHeartbeats 4000000 in
set_option maxRecDepth 100000 in
theorem c_R_reckons_199 (hX : XT X) (fx : CallFix p m c b_R_reckons 10 s args GW RNR) {post : Int32 → SS → Prop} (HR : RetI p l e r_R_reckons s m args below meth c Q D vcl (tyl cA) (wR cA a) X A b_R_reckons .boolean (fun r σ => bz r ∧ post r σ)) {σ : SS} {x1 : Int32} {x4 : Int32} {x6 : Int32} {H : Heap} {locs : List Loc} {ls : Array Slot} (h : f_R_reckons_199 post σ x1 x4 x6) (hw : CX D vcl (tyl cA) (wR cA a σ) X A s H locs) (hl : lv_has ls 10 [(0, .ref (a 0)), (1, .int x1), (4, .int x4), (6, .int x6)]) : W p l e r_R_reckons s m args below meth c H locs 0 0 Q (F0 m 199 ls []) := by
  have hx := fx.1
  have hb := fx.2.1
  unfold f_R_reckons_199 at h
  refine lv_iload (pc := 199) hx hb d_R_reckons_199 (lv_at hl 3 rfl) ?_
  refine lv_ldc (pc := 201) (v := 65536) hx hb fx.2.2.2.1 (fx.2.2.2.2 _ kw_1288) d_R_reckons_201 ?_
  refine lv_icmp_lt (pc := 203) (tgt := 213) hx hb d_R_reckons_203 (by decide) (fun c9 => ?_) (fun c9 => ?_)
  · replace h := h.1 c9
    refine lv_iload (pc := 213) hx hb d_R_reckons_213 (lv_at hl 2 rfl) ?_
    exact c_R_reckons_215 hX fx HR h hw (lv_sub hl [0, 1, 3] rfl)
  · replace h := h.2 c9
    refine lv_iconst (pc := 206) (v := 1) hx hb d_R_reckons_206 (by decide) ?_
    refine lv_iload (pc := 207) hx hb d_R_reckons_207 (lv_at hl 2 rfl) ?_
    refine lv_isub (pc := 209) hx hb d_R_reckons_209 ?_
    refine lv_goto (pc := 210) (tgt := 215) hx hb d_R_reckons_210 (by decide) ?_
    exact c_R_reckons_215 hX fx HR h hw (lv_sub hl [0, 1, 3] rfl)
set_option maxHeartbeats 4000000 in
set_option maxRecDepth 100000 in
theorem c_R_reckons_76 (hX : XT X) (fx : CallFix p m c b_R_reckons 10 s args GW RNR) {post : Int32 → SS → Prop} (HR : RetI p l e r_R_reckons s m args below meth c Q D vcl (tyl cA) (wR cA a) X A b_R_reckons .boolean (fun r σ => bz r ∧ post r σ)) {σ : SS} {x1 : Int32} {x2 : Int32} {x3 : Int32} {s0 : Int32} {H : Heap} {locs : List Loc} {ls : Array Slot} (h : f_R_reckons_76 post σ x1 x2 x3 s0) (hw : CX D vcl (tyl cA) (wR cA a σ) X A s H locs) (hl : lv_has ls 10 [(0, .ref (a 0)), (1, .int x1), (2, .int x2), (3, .int x3)]) : W p l e r_R_reckons s m args below meth c H locs 0 0 Q (F0 m 76 ls [.int s0]) := by
  have hx := fx.1
  have hb := fx.2.1
  unfold f_R_reckons_76 at h
  refine lv_istore (pc := 76) (lv' := [(4, .int s0), (0, .ref (a 0)), (1, .int x1), (2, .int x2), (3, .int x3)]) hx hb d_R_reckons_76 hl (by decide) rfl (fun ls hl => ?_)
  refine lv_ldc (pc := 78) (v := 65535) hx hb fx.2.2.2.1 (fx.2.2.2.2 _ kw_1227) d_R_reckons_78 ?_
  refine lv_iload_n (pc := 80) hx hb d_R_reckons_80 rfl (lv_at hl 3 rfl) ?_
  refine lv_isub (pc := 81) hx hb d_R_reckons_81 ?_
  refine lv_topi (fun x5_12 e9 => ?_)
  replace h := nm_u h e9
  clear e9
  refine lv_istore (pc := 82) (lv' := [(5, .int x5_12), (4, .int s0), (0, .ref (a 0)), (1, .int x1), (2, .int x2), (3, .int x3)]) hx hb d_R_reckons_82 hl (by decide) rfl (fun ls hl => ?_)
  refine lv_iload_n (pc := 84) hx hb d_R_reckons_84 rfl (lv_at hl 3 rfl) ?_
  refine lv_sipush (pc := 85) (v := 256) hx hb d_R_reckons_85 (by decide) ?_
  refine lv_idiv (pc := 88) hx hb d_R_reckons_88 (by decide) ?_
  refine lv_bipush (pc := 89) (v := 8) hx hb d_R_reckons_89 (by decide) ?_
  refine lv_irem (pc := 91) hx hb d_R_reckons_91 (by decide) ?_
  refine lv_topi (fun xs_13 e9 => ?_)
  replace h := nm_u h e9
  clear e9
  by_cases cq_14 : xs_13 = (0 : Int32)
  · replace h := h.1 cq_14
    refine lv_tableIn (pc := 92) (off := 44) (tgt := 136) hx hb d_R_reckons_92 (by rw [cq_14]; decide) (by rw [cq_14]; decide) (by rw [cq_14]; rfl) (by decide) ?_
    refine lv_iload (pc := 136) hx hb d_R_reckons_136 (lv_at hl 0 rfl) ?_
    refine lv_istore (pc := 138) (lv' := [(6, .int x5_12), (5, .int x5_12), (4, .int s0), (0, .ref (a 0)), (1, .int x1), (2, .int x2), (3, .int x3)]) hx hb d_R_reckons_138 hl (by decide) rfl (fun ls hl => ?_)
    refine lv_goto (pc := 140) (tgt := 199) hx hb d_R_reckons_140 (by decide) ?_
    exact c_R_reckons_199 hX fx HR h hw (lv_sub hl [3, 4, 2, 0] rfl)
  replace h := h.2 cq_14
  by_cases cq_15 : xs_13 = (1 : Int32)
  · replace h := h.1 cq_15
    refine lv_tableIn (pc := 92) (off := 51) (tgt := 143) hx hb d_R_reckons_92 (by rw [cq_15]; decide) (by rw [cq_15]; decide) (by rw [cq_15]; rfl) (by decide) ?_
    refine lv_iload (pc := 143) hx hb d_R_reckons_143 (lv_at hl 0 rfl) ?_
    refine lv_iconst (pc := 145) (v := 1) hx hb d_R_reckons_145 (by decide) ?_
    refine lv_iadd (pc := 146) hx hb d_R_reckons_146 ?_
    refine lv_topi (fun x6_16 e9 => ?_)
    replace h := nm_u h e9
    clear e9
    refine lv_istore (pc := 147) (lv' := [(6, .int x6_16), (5, .int x5_12), (4, .int s0), (0, .ref (a 0)), (1, .int x1), (2, .int x2), (3, .int x3)]) hx hb d_R_reckons_147 hl (by decide) rfl (fun ls hl => ?_)
    refine lv_goto (pc := 149) (tgt := 199) hx hb d_R_reckons_149 (by decide) ?_
    exact c_R_reckons_199 hX fx HR h hw (lv_sub hl [3, 4, 2, 0] rfl)
  replace h := h.2 cq_15
  by_cases cq_17 : xs_13 = (2 : Int32)
  · replace h := h.1 cq_17
    refine lv_tableIn (pc := 92) (off := 60) (tgt := 152) hx hb d_R_reckons_92 (by rw [cq_17]; decide) (by rw [cq_17]; decide) (by rw [cq_17]; rfl) (by decide) ?_
    refine lv_iload_n (pc := 152) hx hb d_R_reckons_152 rfl (lv_at hl 4 rfl) ?_
    refine lv_istore (pc := 153) (lv' := [(6, .int x2), (5, .int x5_12), (4, .int s0), (0, .ref (a 0)), (1, .int x1), (2, .int x2), (3, .int x3)]) hx hb d_R_reckons_153 hl (by decide) rfl (fun ls hl => ?_)
    refine lv_goto (pc := 155) (tgt := 199) hx hb d_R_reckons_155 (by decide) ?_
    exact c_R_reckons_199 hX fx HR h hw (lv_sub hl [3, 4, 2, 0] rfl)
  replace h := h.2 cq_17
  by_cases cq_18 : xs_13 = (3 : Int32)
  · replace h := h.1 cq_18
    refine lv_tableIn (pc := 92) (off := 66) (tgt := 158) hx hb d_R_reckons_92 (by rw [cq_18]; decide) (by rw [cq_18]; decide) (by rw [cq_18]; rfl) (by decide) ?_
    refine lv_iload_n (pc := 158) hx hb d_R_reckons_158 rfl (lv_at hl 4 rfl) ?_
    refine lv_iconst (pc := 159) (v := 1) hx hb d_R_reckons_159 (by decide) ?_
    refine lv_iadd (pc := 160) hx hb d_R_reckons_160 ?_
    refine lv_topi (fun x6_19 e9 => ?_)
    replace h := nm_u h e9
    clear e9
    refine lv_istore (pc := 161) (lv' := [(6, .int x6_19), (5, .int x5_12), (4, .int s0), (0, .ref (a 0)), (1, .int x1), (2, .int x2), (3, .int x3)]) hx hb d_R_reckons_161 hl (by decide) rfl (fun ls hl => ?_)
    refine lv_goto (pc := 163) (tgt := 199) hx hb d_R_reckons_163 (by decide) ?_
    exact c_R_reckons_199 hX fx HR h hw (lv_sub hl [3, 4, 2, 0] rfl)
  replace h := h.2 cq_18
  by_cases cq_20 : xs_13 = (4 : Int32)
  · replace h := h.1 cq_20
    refine lv_tableIn (pc := 92) (off := 74) (tgt := 166) hx hb d_R_reckons_92 (by rw [cq_20]; decide) (by rw [cq_20]; decide) (by rw [cq_20]; rfl) (by decide) ?_
    refine lv_iload_n (pc := 166) hx hb d_R_reckons_166 rfl (lv_at hl 5 rfl) ?_
    refine lv_iload (pc := 167) hx hb d_R_reckons_167 (lv_at hl 0 rfl) ?_
    refine lv_iadd (pc := 169) hx hb d_R_reckons_169 ?_
    refine lv_topi (fun x6_21 e9 => ?_)
    replace h := nm_u h e9
    clear e9
    refine lv_istore (pc := 170) (lv' := [(6, .int x6_21), (5, .int x5_12), (4, .int s0), (0, .ref (a 0)), (1, .int x1), (2, .int x2), (3, .int x3)]) hx hb d_R_reckons_170 hl (by decide) rfl (fun ls hl => ?_)
    refine lv_goto (pc := 172) (tgt := 199) hx hb d_R_reckons_172 (by decide) ?_
    exact c_R_reckons_199 hX fx HR h hw (lv_sub hl [3, 4, 2, 0] rfl)
  replace h := h.2 cq_20
  by_cases cq_22 : xs_13 = (5 : Int32)
  · replace h := h.1 cq_22
    refine lv_tableIn (pc := 92) (off := 83) (tgt := 175) hx hb d_R_reckons_92 (by rw [cq_22]; decide) (by rw [cq_22]; decide) (by rw [cq_22]; rfl) (by decide) ?_
    refine lv_iload_n (pc := 175) hx hb d_R_reckons_175 rfl (lv_at hl 5 rfl) ?_
    refine lv_iload (pc := 176) hx hb d_R_reckons_176 (lv_at hl 0 rfl) ?_
    refine lv_iadd (pc := 178) hx hb d_R_reckons_178 ?_
    refine lv_iconst (pc := 179) (v := 1) hx hb d_R_reckons_179 (by decide) ?_
    refine lv_iadd (pc := 180) hx hb d_R_reckons_180 ?_
    refine lv_topi (fun x6_23 e9 => ?_)
    replace h := nm_u h e9
    clear e9
    refine lv_istore (pc := 181) (lv' := [(6, .int x6_23), (5, .int x5_12), (4, .int s0), (0, .ref (a 0)), (1, .int x1), (2, .int x2), (3, .int x3)]) hx hb d_R_reckons_181 hl (by decide) rfl (fun ls hl => ?_)
    refine lv_goto (pc := 183) (tgt := 199) hx hb d_R_reckons_183 (by decide) ?_
    exact c_R_reckons_199 hX fx HR h hw (lv_sub hl [3, 4, 2, 0] rfl)
  replace h := h.2 cq_22
  by_cases cq_24 : xs_13 = (6 : Int32)
  · replace h := h.1 cq_24
    refine lv_tableIn (pc := 92) (off := 94) (tgt := 186) hx hb d_R_reckons_92 (by rw [cq_24]; decide) (by rw [cq_24]; decide) (by rw [cq_24]; rfl) (by decide) ?_
    refine lv_iload_n (pc := 186) hx hb d_R_reckons_186 rfl (lv_at hl 5 rfl) ?_
    refine lv_iload_n (pc := 187) hx hb d_R_reckons_187 rfl (lv_at hl 4 rfl) ?_
    refine lv_iadd (pc := 188) hx hb d_R_reckons_188 ?_
    refine lv_topi (fun x6_25 e9 => ?_)
    replace h := nm_u h e9
    clear e9
    refine lv_istore (pc := 189) (lv' := [(6, .int x6_25), (5, .int x5_12), (4, .int s0), (0, .ref (a 0)), (1, .int x1), (2, .int x2), (3, .int x3)]) hx hb d_R_reckons_189 hl (by decide) rfl (fun ls hl => ?_)
    refine lv_goto (pc := 191) (tgt := 199) hx hb d_R_reckons_191 (by decide) ?_
    exact c_R_reckons_199 hX fx HR h hw (lv_sub hl [3, 4, 2, 0] rfl)
  replace h := h.2 cq_24
  refine lv_tableOut (pc := 92) (tgt := 194) hx hb d_R_reckons_92 (by have := lv_neT cq_14 (a := 0) (by decide); have := lv_neT cq_15 (a := 1) (by decide); have := lv_neT cq_17 (a := 2) (by decide); have := lv_neT cq_18 (a := 3) (by decide); have := lv_neT cq_20 (a := 4) (by decide); have := lv_neT cq_22 (a := 5) (by decide); have := lv_neT cq_24 (a := 6) (by decide); omega) (by decide) ?_
  refine lv_iload_n (pc := 194) hx hb d_R_reckons_194 rfl (lv_at hl 5 rfl) ?_
  refine lv_iload_n (pc := 195) hx hb d_R_reckons_195 rfl (lv_at hl 4 rfl) ?_
  refine lv_iand (pc := 196) hx hb d_R_reckons_196 ?_
  refine lv_topi (fun x6_26 e9 => ?_)
  replace h := nm_u h e9
  clear e9
  refine lv_istore (pc := 197) (lv' := [(6, .int x6_26), (5, .int x5_12), (4, .int s0), (0, .ref (a 0)), (1, .int x1), (2, .int x2), (3, .int x3)]) hx hb d_R_reckons_197 hl (by decide) rfl (fun ls hl => ?_)
  exact c_R_reckons_199 hX fx HR h hw (lv_sub hl [3, 4, 2, 0] rfl)
set_option maxHeartbeats 4000000 in
set_option maxRecDepth 100000 in
theorem e_R_reckons (hX : XT X) (fx : CallFix p m c b_R_reckons 10 s args GW RNR) {post : Int32 → SS → Prop} (HR : RetI p l e r_R_reckons s m args below meth c Q D vcl (tyl cA) (wR cA a) X A b_R_reckons .boolean (fun r σ => bz r ∧ post r σ)) {σ : SS} {x1 : Int32} {H : Heap} {locs : List Loc} {ls : Array Slot} (h : f_R_reckons post σ x1) (hw : CX D vcl (tyl cA) (wR cA a σ) X A s H locs) (hl : lv_has ls 10 [(0, .ref (a 0)), (1, .int x1)]) : W p l e r_R_reckons s m args below meth c H locs 0 0 Q (F0 m 0 ls []) := by
  have hx := fx.1
  have hb := fx.2.1
  unfold f_R_reckons at h
  refine lv_aload_n (pc := 0) hx hb d_R_reckons_0 rfl (lv_at hl 0 rfl) ?_
  refine gR_0_accumulators (pc := 1) fx hw kw_1068 d_R_reckons_1 ?_
  refine lv_iload_n (pc := 4) hx hb d_R_reckons_4 rfl (lv_at hl 1 rfl) ?_
  refine lv_sipush (pc := 5) (v := 8192) hx hb d_R_reckons_5 (by decide) ?_
  refine lv_idiv (pc := 8) hx hb d_R_reckons_8 (by decide) ?_
  refine lv_iconst (pc := 9) (v := 4) hx hb d_R_reckons_9 (by decide) ?_
  refine lv_irem (pc := 10) hx hb d_R_reckons_10 (by decide) ?_
  refine alR_2 (pc := 11) fx hw h.1 d_R_reckons_11 ?_
  replace h := h.2
  refine lv_topi (fun x2_27 e9 => ?_)
  replace h := nm_u h e9
  clear e9
  refine lv_istore_n (pc := 12) (lv' := [(2, .int x2_27), (0, .ref (a 0)), (1, .int x1)]) hx hb d_R_reckons_12 rfl hl (by decide) rfl (fun ls hl => ?_)
  refine lv_aload_n (pc := 13) hx hb d_R_reckons_13 rfl (lv_at hl 1 rfl) ?_
  refine gR_0_accumulators (pc := 14) fx hw kw_1068 d_R_reckons_14 ?_
  refine lv_iload_n (pc := 17) hx hb d_R_reckons_17 rfl (lv_at hl 2 rfl) ?_
  refine lv_sipush (pc := 18) (v := 2048) hx hb d_R_reckons_18 (by decide) ?_
  refine lv_idiv (pc := 21) hx hb d_R_reckons_21 (by decide) ?_
  refine lv_iconst (pc := 22) (v := 4) hx hb d_R_reckons_22 (by decide) ?_
  refine lv_irem (pc := 23) hx hb d_R_reckons_23 (by decide) ?_
  refine alR_2 (pc := 24) fx hw h.1 d_R_reckons_24 ?_
  replace h := h.2
  refine lv_topi (fun x3_28 e9 => ?_)
  replace h := nm_u h e9
  clear e9
  refine lv_istore_n (pc := 25) (lv' := [(3, .int x3_28), (2, .int x2_27), (0, .ref (a 0)), (1, .int x1)]) hx hb d_R_reckons_25 rfl hl (by decide) rfl (fun ls hl => ?_)
  refine lv_iload_n (pc := 26) hx hb d_R_reckons_26 rfl (lv_at hl 3 rfl) ?_
  refine lv_bipush (pc := 27) (v := 16) hx hb d_R_reckons_27 (by decide) ?_
  refine lv_idiv (pc := 29) hx hb d_R_reckons_29 (by decide) ?_
  refine lv_iconst (pc := 30) (v := 4) hx hb d_R_reckons_30 (by decide) ?_
  refine lv_irem (pc := 31) hx hb d_R_reckons_31 (by decide) ?_
  refine lv_if_ne (pc := 32) (tgt := 42) hx hb d_R_reckons_32 (by decide) (fun c9 => ?_) (fun c9 => ?_)
  · replace h := h.2 c9
    refine lv_iload_n (pc := 42) hx hb d_R_reckons_42 rfl (lv_at hl 3 rfl) ?_
    refine lv_bipush (pc := 43) (v := 16) hx hb d_R_reckons_43 (by decide) ?_
    refine lv_idiv (pc := 45) hx hb d_R_reckons_45 (by decide) ?_
    refine lv_iconst (pc := 46) (v := 4) hx hb d_R_reckons_46 (by decide) ?_
    refine lv_irem (pc := 47) hx hb d_R_reckons_47 (by decide) ?_
    refine lv_iconst (pc := 48) (v := 1) hx hb d_R_reckons_48 (by decide) ?_
    refine lv_icmp_ne (pc := 49) (tgt := 56) hx hb d_R_reckons_49 (by decide) (fun c9 => ?_) (fun c9 => ?_)
    · replace h := h.2 c9
      refine lv_iload_n (pc := 56) hx hb d_R_reckons_56 rfl (lv_at hl 3 rfl) ?_
      refine lv_bipush (pc := 57) (v := 16) hx hb d_R_reckons_57 (by decide) ?_
      refine lv_idiv (pc := 59) hx hb d_R_reckons_59 (by decide) ?_
      refine lv_iconst (pc := 60) (v := 4) hx hb d_R_reckons_60 (by decide) ?_
      refine lv_irem (pc := 61) hx hb d_R_reckons_61 (by decide) ?_
      refine lv_iconst (pc := 62) (v := 2) hx hb d_R_reckons_62 (by decide) ?_
      refine lv_icmp_ne (pc := 63) (tgt := 70) hx hb d_R_reckons_63 (by decide) (fun c9 => ?_) (fun c9 => ?_)
      · replace h := h.2 c9
        refine lv_iconst (pc := 70) (v := 1) hx hb d_R_reckons_70 (by decide) ?_
        refine lv_aload_n (pc := 71) hx hb d_R_reckons_71 rfl (lv_at hl 2 rfl) ?_
        refine gR_0_carry (pc := 72) fx hw kw_1069 d_R_reckons_72 ?_
        refine lv_isub (pc := 75) hx hb d_R_reckons_75 ?_
        exact c_R_reckons_76 hX fx HR h hw (lv_sub hl [2, 3, 1, 0] rfl)
      · replace h := h.1 c9
        refine lv_iconst (pc := 66) (v := 1) hx hb d_R_reckons_66 (by decide) ?_
        refine lv_goto (pc := 67) (tgt := 76) hx hb d_R_reckons_67 (by decide) ?_
        exact c_R_reckons_76 hX fx HR h hw (lv_sub hl [2, 3, 1, 0] rfl)
    · replace h := h.1 c9
      refine lv_iconst (pc := 52) (v := 0) hx hb d_R_reckons_52 (by decide) ?_
      refine lv_goto (pc := 53) (tgt := 76) hx hb d_R_reckons_53 (by decide) ?_
      exact c_R_reckons_76 hX fx HR h hw (lv_sub hl [2, 3, 1, 0] rfl)
  · replace h := h.1 c9
    refine lv_aload_n (pc := 35) hx hb d_R_reckons_35 rfl (lv_at hl 2 rfl) ?_
    refine gR_0_carry (pc := 36) fx hw kw_1069 d_R_reckons_36 ?_
    refine lv_goto (pc := 39) (tgt := 76) hx hb d_R_reckons_39 (by decide) ?_
    exact c_R_reckons_76 hX fx HR h hw (lv_sub hl [2, 3, 1, 0] rfl)
end
theorem c_R_reckons {l : Launch} {D : va_G} {cA : Nat → ClassId} {a : Nat → Nat} {X : (Nat → Prop) → State → Prop} (hX : XT X) {σ : SS} {post : Int32 → SS → Prop} {x1 : Int32} (h : f_R_reckons post σ x1) : mI l y_R_reckons b_R_reckons 10 (some .boolean) 0 0 D vcl (tyl cA) (wR cA a) X σ [.ref (a 0), .int x1] (fun r σ => bz r ∧ post r σ) := met_I (by decide) (Nat.le_of_ble_eq_true rfl) (fun p e s m args below meth c A Q fx HR H ls hw hl => e_R_reckons hX fx HR h hw hl)
