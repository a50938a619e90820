/-! the class, walked: part 3 -/
abbrev r_E_append : Room := { frames := 0, cells := 0, slots := 0, locals := 0 }
def f_E_append (post : SS → Prop) (σ : SS) (x1 : Int32) : Prop := br (500 ≤ (σ.1 14)) (post σ) (vp_in (((σ.1 13) + (σ.1 14)) - ((σ.1 13) + (σ.1 14)) / 500 * 500) 500 ∧ nm (sA σ 5 (((σ.1 13) + (σ.1 14)) - ((σ.1 13) + (σ.1 14)) / 500 * 500).toNatClampNeg (vp_nar .char ((x1.toUInt32 % 65536).toInt32))) fun σ_1 => nm (sI σ_1 14 ((σ_1.1 14) + 1)) fun σ_2 => post σ_2)
section
variable {p : Program} {l : Launch} {e : Env} {s : State} {m : MethodId} {args : Array Value} {below : List Frame} {meth : Method} {c : Code} {Q : State → Prop} {D : va_G} {cA : Nat → ClassId} {a : Nat → Nat} {ad : Nat → Nat → Nat} {A : Nat → Prop}
set_option maxHeartbeats 4000000 in
set_option maxRecDepth 100000 in
theorem e_E_append (fx : CallFix p m c b_E_append 2 s args GW RNE) {post : SS → Prop} (HR : RetV p l e r_E_append s m args below meth c Q D vcl (tyl cA) (wC cA a) (XC ad) A b_E_append post) {σ : SS} {x1 : Int32} {H : Heap} {locs : List Loc} {ls : Array Slot} (h : f_E_append post σ x1) (hw : CX D vcl (tyl cA) (wC cA a σ) (XC ad) A s H locs) (hl : lv_has ls 2 [(0, .ref (a 4)), (1, .int x1)]) : W p l e r_E_append s m args below meth c H locs 0 0 Q (F0 m 0 ls []) := by
  have hx := fx.1
  have hb := fx.2.1
  unfold f_E_append at h
  refine lv_aload_n (pc := 0) hx hb d_E_append_0 rfl (lv_at hl 0 rfl) ?_
  refine gC_4_waiting (pc := 1) fx hw kw_52 d_E_append_1 ?_
  refine lv_sipush (pc := 4) (v := 500) hx hb d_E_append_4 (by decide) ?_
  refine lv_icmp_ge (pc := 7) (tgt := 40) hx hb d_E_append_7 (by decide) (fun c9 => ?_) (fun c9 => ?_)
  · replace h := h.1 c9
    exact HR d_E_append_40 h hw
  · replace h := h.2 c9
    refine lv_aload_n (pc := 10) hx hb d_E_append_10 rfl (lv_at hl 0 rfl) ?_
    refine gC_4_tape (pc := 11) fx hw kw_50 d_E_append_11 ?_
    refine lv_aload_n (pc := 14) hx hb d_E_append_14 rfl (lv_at hl 0 rfl) ?_
    refine gC_4_head (pc := 15) fx hw kw_51 d_E_append_15 ?_
    refine lv_aload_n (pc := 18) hx hb d_E_append_18 rfl (lv_at hl 0 rfl) ?_
    refine gC_4_waiting (pc := 19) fx hw kw_52 d_E_append_19 ?_
    refine lv_iadd (pc := 22) hx hb d_E_append_22 ?_
    refine lv_sipush (pc := 23) (v := 500) hx hb d_E_append_23 (by decide) ?_
    refine lv_irem (pc := 26) hx hb d_E_append_26 (by decide) ?_
    refine lv_iload_n (pc := 27) hx hb d_E_append_27 rfl (lv_at hl 1 rfl) ?_
    refine lv_i2c (pc := 28) hx hb d_E_append_28 rfl ?_
    refine asC_5 (pc := 29) fx hw h.1 d_E_append_29 (fun σ_1 e9 H locs hw => ?_)
    replace h := nm_u h.2 e9
    clear e9
    refine lv_aload_n (pc := 30) hx hb d_E_append_30 rfl (lv_at hl 0 rfl) ?_
    refine lv_dup (pc := 31) hx hb d_E_append_31 rfl ?_
    refine gC_4_waiting (pc := 32) fx hw kw_52 d_E_append_32 ?_
    refine lv_iconst (pc := 35) (v := 1) hx hb d_E_append_35 (by decide) ?_
    refine lv_iadd (pc := 36) hx hb d_E_append_36 ?_
    refine pC_4_waiting (pc := 37) fx hw kw_52 d_E_append_37 (fun σ_2 e9 H locs hw => ?_)
    replace h := nm_u h e9
    clear e9
    exact HR d_E_append_40 h hw
end
theorem c_E_append {l : Launch} {D : va_G} {cA : Nat → ClassId} {a : Nat → Nat} {ad : Nat → Nat → Nat} {σ : SS} {post : SS → Prop} {x1 : Int32} (h : f_E_append post σ x1) : mV l y_E_append b_E_append 2 none 0 0 D vcl (tyl cA) (wC cA a) (XC ad) σ [.ref (a 4), .int x1] post := met_V (by decide) (Nat.le_of_ble_eq_true rfl) (fun p e s m args below meth c A Q fx HR H ls hw hl => e_E_append  fx HR h hw hl)
abbrev r_P_characterAt : Room := { frames := 0, cells := 0, slots := 0, locals := 0 }
def f_P_characterAt (post : Int32 → SS → Prop) (σ : SS) (x1 : Int32) : Prop := br (x1 < 0) (post (-1) σ) (br ((σ.1 19) ≤ x1) (post (-1) σ) (br (1000 ≤ x1) (post (-1) σ) (vp_in x1 1000 ∧ post (σ.2.1 7 x1.toNatClampNeg) σ)))
section
variable {p : Program} {l : Launch} {e : Env} {s : State} {m : MethodId} {args : Array Value} {below : List Frame} {meth : Method} {c : Code} {Q : State → Prop} {D : va_G} {cA : Nat → ClassId} {a : Nat → Nat} {ad : Nat → Nat → Nat} {A : Nat → Prop}
set_option maxHeartbeats 4000000 in
set_option maxRecDepth 100000 in
theorem e_P_characterAt (fx : CallFix p m c b_P_characterAt 2 s args GW RNP) {post : Int32 → SS → Prop} (HR : RetI p l e r_P_characterAt s m args below meth c Q D vcl (tyl cA) (wC cA a) (XC ad) A b_P_characterAt .int post) {σ : SS} {x1 : Int32} {H : Heap} {locs : List Loc} {ls : Array Slot} (h : f_P_characterAt post σ x1) (hw : CX D vcl (tyl cA) (wC cA a σ) (XC ad) A s H locs) (hl : lv_has ls 2 [(0, .ref (a 6)), (1, .int x1)]) : W p l e r_P_characterAt s m args below meth c H locs 0 0 Q (F0 m 0 ls []) := by
  have hx := fx.1
  have hb := fx.2.1
  unfold f_P_characterAt at h
  refine lv_iload_n (pc := 0) hx hb d_P_characterAt_0 rfl (lv_at hl 1 rfl) ?_
  refine lv_if_lt (pc := 1) (tgt := 28) hx hb d_P_characterAt_1 (by decide) (fun c9 => ?_) (fun c9 => ?_)
  · replace h := h.1 c9
    refine lv_iconst (pc := 28) (v := (-1)) hx hb d_P_characterAt_28 (by decide) ?_
    exact HR rfl d_P_characterAt_29 h hw
  · replace h := h.2 c9
    refine lv_iload_n (pc := 4) hx hb d_P_characterAt_4 rfl (lv_at hl 1 rfl) ?_
    refine lv_aload_n (pc := 5) hx hb d_P_characterAt_5 rfl (lv_at hl 0 rfl) ?_
    refine gC_6_count (pc := 6) fx hw kw_95 d_P_characterAt_6 ?_
    refine lv_icmp_ge (pc := 9) (tgt := 28) hx hb d_P_characterAt_9 (by decide) (fun c9 => ?_) (fun c9 => ?_)
    · replace h := h.1 c9
      refine lv_iconst (pc := 28) (v := (-1)) hx hb d_P_characterAt_28 (by decide) ?_
      exact HR rfl d_P_characterAt_29 h hw
    · replace h := h.2 c9
      refine lv_iload_n (pc := 12) hx hb d_P_characterAt_12 rfl (lv_at hl 1 rfl) ?_
      refine lv_sipush (pc := 13) (v := 1000) hx hb d_P_characterAt_13 (by decide) ?_
      refine lv_icmp_ge (pc := 16) (tgt := 28) hx hb d_P_characterAt_16 (by decide) (fun c9 => ?_) (fun c9 => ?_)
      · replace h := h.1 c9
        refine lv_iconst (pc := 28) (v := (-1)) hx hb d_P_characterAt_28 (by decide) ?_
        exact HR rfl d_P_characterAt_29 h hw
      · replace h := h.2 c9
        refine lv_aload_n (pc := 19) hx hb d_P_characterAt_19 rfl (lv_at hl 0 rfl) ?_
        refine gC_6_paper (pc := 20) fx hw kw_94 d_P_characterAt_20 ?_
        refine lv_iload_n (pc := 23) hx hb d_P_characterAt_23 rfl (lv_at hl 1 rfl) ?_
        refine alC_7 (pc := 24) fx hw h.1 d_P_characterAt_24 ?_
        replace h := h.2
        refine lv_goto (pc := 25) (tgt := 29) hx hb d_P_characterAt_25 (by decide) ?_
        exact HR rfl d_P_characterAt_29 h hw
end
theorem c_P_characterAt {l : Launch} {D : va_G} {cA : Nat → ClassId} {a : Nat → Nat} {ad : Nat → Nat → Nat} {σ : SS} {post : Int32 → SS → Prop} {x1 : Int32} (h : f_P_characterAt post σ x1) : mI l y_P_characterAt b_P_characterAt 2 (some .int) 0 0 D vcl (tyl cA) (wC cA a) (XC ad) σ [.ref (a 6), .int x1] post := met_I (by decide) (Nat.le_of_ble_eq_true rfl) (fun p e s m args below meth c A Q fx HR H ls hw hl => e_P_characterAt  fx HR h hw hl)
abbrev r_P_takePaper : Room := { frames := 0, cells := 0, slots := 0, locals := 0 }
def f_P_takePaper (post : Int32 → SS → Prop) (σ : SS) : Prop := nm (σ.1 19) fun x1_1 => nm (sI σ 19 0) fun σ_2 => post x1_1 σ_2
section
variable {p : Program} {l : Launch} {e : Env} {s : State} {m : MethodId} {args : Array Value} {below : List Frame} {meth : Method} {c : Code} {Q : State → Prop} {D : va_G} {cA : Nat → ClassId} {a : Nat → Nat} {ad : Nat → Nat → Nat} {A : Nat → Prop}
set_option maxHeartbeats 4000000 in
set_option maxRecDepth 100000 in
theorem e_P_takePaper (fx : CallFix p m c b_P_takePaper 2 s args GW RNP) {post : Int32 → SS → Prop} (HR : RetI p l e r_P_takePaper s m args below meth c Q D vcl (tyl cA) (wC cA a) (XC ad) A b_P_takePaper .int post) {σ : SS} {H : Heap} {locs : List Loc} {ls : Array Slot} (h : f_P_takePaper post σ) (hw : CX D vcl (tyl cA) (wC cA a σ) (XC ad) A s H locs) (hl : lv_has ls 2 [(0, .ref (a 6))]) : W p l e r_P_takePaper s m args below meth c H locs 0 0 Q (F0 m 0 ls []) := by
  have hx := fx.1
  have hb := fx.2.1
  unfold f_P_takePaper at h
  refine lv_aload_n (pc := 0) hx hb d_P_takePaper_0 rfl (lv_at hl 0 rfl) ?_
  refine gC_6_count (pc := 1) fx hw kw_95 d_P_takePaper_1 ?_
  refine lv_topi (fun x1_1 e9 => ?_)
  replace h := nm_u h e9
  clear e9
  refine lv_istore_n (pc := 4) (lv' := [(1, .int x1_1), (0, .ref (a 6))]) hx hb d_P_takePaper_4 rfl hl (by decide) rfl (fun ls hl => ?_)
  refine lv_aload_n (pc := 5) hx hb d_P_takePaper_5 rfl (lv_at hl 1 rfl) ?_
  refine lv_iconst (pc := 6) (v := 0) hx hb d_P_takePaper_6 (by decide) ?_
  refine pC_6_count (pc := 7) fx hw kw_95 d_P_takePaper_7 (fun σ_2 e9 H locs hw => ?_)
  replace h := nm_u h e9
  clear e9
  refine lv_iload_n (pc := 10) hx hb d_P_takePaper_10 rfl (lv_at hl 0 rfl) ?_
  exact HR rfl d_P_takePaper_11 h hw
end
theorem c_P_takePaper {l : Launch} {D : va_G} {cA : Nat → ClassId} {a : Nat → Nat} {ad : Nat → Nat → Nat} {σ : SS} {post : Int32 → SS → Prop} (h : f_P_takePaper post σ) : mI l y_P_takePaper b_P_takePaper 2 (some .int) 0 0 D vcl (tyl cA) (wC cA a) (XC ad) σ [.ref (a 6)] post := met_I (by decide) (Nat.le_of_ble_eq_true rfl) (fun p e s m args below meth c A Q fx HR H ls hw hl => e_P_takePaper  fx HR h hw hl)
abbrev r_L_find_14 : Room := { frames := 0, cells := 0, slots := 0, locals := 0 }
def f_L_find_14_2 (post : Int32 → SS → Prop) : Nat → SS → Int64 → Int32 → Prop
  | 0, _, _, _ => False
  | n + 1, σ, x1, x3 => br ((σ.1 37) ≤ x3) (post (-1) σ) (vp_in x3 200 ∧ br ((lg_cmp (σ.2.2.2 15 x3.toNatClampNeg) x1) = 0) (vp_in x3 200 ∧ post (σ.2.1 16 x3.toNatClampNeg) σ) (nm (x3 + 1) fun x3_1 => f_L_find_14_2 post n σ x1 x3_1))
def f_L_find_14 (post : Int32 → SS → Prop) (σ : SS) (x1 : Int64) : Prop := ∃ n9, f_L_find_14_2 post n9 σ x1 0
section
variable {p : Program} {l : Launch} {e : Env} {s : State} {m : MethodId} {args : Array Value} {below : List Frame} {meth : Method} {c : Code} {Q : State → Prop} {D : va_G} {cA : Nat → ClassId} {a : Nat → Nat} {ad : Nat → Nat → Nat} {A : Nat → Prop}
set_option maxHeartbeats 4000000 in
set_option maxRecDepth 100000 in
theorem c_L_find_14_2 (fx : CallFix p m c b_L_find 4 s args GW RNL) {post : Int32 → SS → Prop} (HR : RetI p l e r_L_find_14 s m args below meth c Q D vcl (tyl cA) (wC cA a) (XC ad) A b_L_find .int post) : ∀ (n : Nat) {σ : SS} {x1 : Int64} {x3 : Int32} {H : Heap} {locs : List Loc} {ls : Array Slot}, f_L_find_14_2 post n σ x1 x3 → CX D vcl (tyl cA) (wC cA a σ) (XC ad) A s H locs → lv_has ls 4 [(0, .ref (a 14)), (1, .long x1), (3, .int x3)] → W p l e r_L_find_14 s m args below meth c H locs 0 0 Q (F0 m 2 ls []) := by
  have hx := fx.1
  have hb := fx.2.1
  intro n
  induction n with
  | zero => intro σ x1 x3 H locs ls h; exact h.elim
  | succ n ih =>
    intro σ x1 x3 H locs ls h hw hl
    have K2 := @ih
    unfold f_L_find_14_2 at h
    refine lv_iload_n (pc := 2) hx hb d_L_find_2 rfl (lv_at hl 2 rfl) ?_
    refine lv_aload_n (pc := 3) hx hb d_L_find_3 rfl (lv_at hl 0 rfl) ?_
    refine gC_14_count (pc := 4) fx hw kw_208 d_L_find_4 ?_
    refine lv_icmp_ge (pc := 7) (tgt := 34) hx hb d_L_find_7 (by decide) (fun c9 => ?_) (fun c9 => ?_)
    · replace h := h.1 c9
      refine lv_iconst (pc := 34) (v := (-1)) hx hb d_L_find_34 (by decide) ?_
      exact HR rfl d_L_find_35 h hw
    · replace h := h.2 c9
      refine lv_aload_n (pc := 10) hx hb d_L_find_10 rfl (lv_at hl 0 rfl) ?_
      refine gC_14_keys (pc := 11) fx hw kw_206 d_L_find_11 ?_
      refine lv_iload_n (pc := 14) hx hb d_L_find_14 rfl (lv_at hl 2 rfl) ?_
      refine alC_15 (pc := 15) fx hw h.1 d_L_find_15 ?_
      replace h := h.2
      refine lv_lload_n (pc := 16) hx hb d_L_find_16 rfl (lv_at hl 1 rfl) ?_
      refine W.lcmp (pc := 17) hx hb d_L_find_17 ?_
      refine lv_if_ne (pc := 18) (tgt := 28) hx hb d_L_find_18 (by decide) (fun c9 => ?_) (fun c9 => ?_)
      · replace h := h.2 c9
        obtain ⟨x3_1, e9⟩ : ∃ z : Int32, z = x3 + 1 := ⟨_, rfl⟩
        replace h := nm_u h e9
        refine lv_iinc (pc := 28) (v := x3_1) (lv' := [(3, .int x3_1), (0, .ref (a 14)), (1, .long x1)]) hx hb d_L_find_28 hl (k := 2) rfl (by rw [e9]; rfl) (by decide) rfl (fun ls hl => ?_)
        clear e9
        refine lv_goto (pc := 31) (tgt := 2) hx hb d_L_find_31 (by decide) ?_
        exact K2 h hw (lv_sub hl [1, 2, 0] rfl)
      · replace h := h.1 c9
        refine lv_aload_n (pc := 21) hx hb d_L_find_21 rfl (lv_at hl 0 rfl) ?_
        refine gC_14_places (pc := 22) fx hw kw_207 d_L_find_22 ?_
        refine lv_iload_n (pc := 25) hx hb d_L_find_25 rfl (lv_at hl 2 rfl) ?_
        refine alC_16 (pc := 26) fx hw h.1 d_L_find_26 ?_
        replace h := h.2
        exact HR rfl d_L_find_27 h hw
set_option maxHeartbeats 4000000 in
set_option maxRecDepth 100000 in
theorem e_L_find_14 (fx : CallFix p m c b_L_find 4 s args GW RNL) {post : Int32 → SS → Prop} (HR : RetI p l e r_L_find_14 s m args below meth c Q D vcl (tyl cA) (wC cA a) (XC ad) A b_L_find .int post) {σ : SS} {x1 : Int64} {H : Heap} {locs : List Loc} {ls : Array Slot} (h : f_L_find_14 post σ x1) (hw : CX D vcl (tyl cA) (wC cA a σ) (XC ad) A s H locs) (hl : lv_has ls 4 [(0, .ref (a 14)), (1, .long x1)]) : W p l e r_L_find_14 s m args below meth c H locs 0 0 Q (F0 m 0 ls []) := by
  have hx := fx.1
  have hb := fx.2.1
  unfold f_L_find_14 at h
  refine lv_iconst (pc := 0) (v := 0) hx hb d_L_find_0 (by decide) ?_
  refine lv_istore_n (pc := 1) (lv' := [(3, .int 0), (0, .ref (a 14)), (1, .long x1)]) hx hb d_L_find_1 rfl hl (by decide) rfl (fun ls hl => ?_)
  obtain ⟨n9, h⟩ := h
  exact c_L_find_14_2  fx HR n9 h hw (lv_sub hl [1, 2, 0] rfl)
end
theorem c_L_find_14 {l : Launch} {D : va_G} {cA : Nat → ClassId} {a : Nat → Nat} {ad : Nat → Nat → Nat} {σ : SS} {post : Int32 → SS → Prop} {x1 : Int64} (h : f_L_find_14 post σ x1) : mI l y_L_find b_L_find 4 (some .int) 0 0 D vcl (tyl cA) (wC cA a) (XC ad) σ [.ref (a 14), .long x1] post := met_I (by decide) (Nat.le_of_ble_eq_true rfl) (fun p e s m args below meth c A Q fx HR H ls hw hl => e_L_find_14  fx HR h hw hl)
abbrev r_L_find_17 : Room := { frames := 0, cells := 0, slots := 0, locals := 0 }
def f_L_find_17_2 (post : Int32 → SS → Prop) : Nat → SS → Int64 → Int32 → Prop
  | 0, _, _, _ => False
  | n + 1, σ, x1, x3 => br ((σ.1 38) ≤ x3) (post (-1) σ) (vp_in x3 200 ∧ br ((lg_cmp (σ.2.2.2 18 x3.toNatClampNeg) x1) = 0) (vp_in x3 200 ∧ post (σ.2.1 19 x3.toNatClampNeg) σ) (nm (x3 + 1) fun x3_1 => f_L_find_17_2 post n σ x1 x3_1))
def f_L_find_17 (post : Int32 → SS → Prop) (σ : SS) (x1 : Int64) : Prop := ∃ n9, f_L_find_17_2 post n9 σ x1 0
section
variable {p : Program} {l : Launch} {e : Env} {s : State} {m : MethodId} {args : Array Value} {below : List Frame} {meth : Method} {c : Code} {Q : State → Prop} {D : va_G} {cA : Nat → ClassId} {a : Nat → Nat} {ad : Nat → Nat → Nat} {A : Nat → Prop}
set_option maxHeartbeats 4000000 in
set_option maxRecDepth 100000 in
theorem c_L_find_17_2 (fx : CallFix p m c b_L_find 4 s args GW RNL) {post : Int32 → SS → Prop} (HR : RetI p l e r_L_find_17 s m args below meth c Q D vcl (tyl cA) (wC cA a) (XC ad) A b_L_find .int post) : ∀ (n : Nat) {σ : SS} {x1 : Int64} {x3 : Int32} {H : Heap} {locs : List Loc} {ls : Array Slot}, f_L_find_17_2 post n σ x1 x3 → CX D vcl (tyl cA) (wC cA a σ) (XC ad) A s H locs → lv_has ls 4 [(0, .ref (a 17)), (1, .long x1), (3, .int x3)] → W p l e r_L_find_17 s m args below meth c H locs 0 0 Q (F0 m 2 ls []) := by
  have hx := fx.1
  have hb := fx.2.1
  intro n
  induction n with
  | zero => intro σ x1 x3 H locs ls h; exact h.elim
  | succ n ih =>
    intro σ x1 x3 H locs ls h hw hl
    have K2 := @ih
    unfold f_L_find_17_2 at h
    refine lv_iload_n (pc := 2) hx hb d_L_find_2 rfl (lv_at hl 2 rfl) ?_
    refine lv_aload_n (pc := 3) hx hb d_L_find_3 rfl (lv_at hl 0 rfl) ?_
    refine gC_17_count (pc := 4) fx hw kw_208 d_L_find_4 ?_
    refine lv_icmp_ge (pc := 7) (tgt := 34) hx hb d_L_find_7 (by decide) (fun c9 => ?_) (fun c9 => ?_)
    · replace h := h.1 c9
      refine lv_iconst (pc := 34) (v := (-1)) hx hb d_L_find_34 (by decide) ?_
      exact HR rfl d_L_find_35 h hw
    · replace h := h.2 c9
      refine lv_aload_n (pc := 10) hx hb d_L_find_10 rfl (lv_at hl 0 rfl) ?_
      refine gC_17_keys (pc := 11) fx hw kw_206 d_L_find_11 ?_
      refine lv_iload_n (pc := 14) hx hb d_L_find_14 rfl (lv_at hl 2 rfl) ?_
      refine alC_18 (pc := 15) fx hw h.1 d_L_find_15 ?_
      replace h := h.2
      refine lv_lload_n (pc := 16) hx hb d_L_find_16 rfl (lv_at hl 1 rfl) ?_
      refine W.lcmp (pc := 17) hx hb d_L_find_17 ?_
      refine lv_if_ne (pc := 18) (tgt := 28) hx hb d_L_find_18 (by decide) (fun c9 => ?_) (fun c9 => ?_)
      · replace h := h.2 c9
        obtain ⟨x3_1, e9⟩ : ∃ z : Int32, z = x3 + 1 := ⟨_, rfl⟩
        replace h := nm_u h e9
        refine lv_iinc (pc := 28) (v := x3_1) (lv' := [(3, .int x3_1), (0, .ref (a 17)), (1, .long x1)]) hx hb d_L_find_28 hl (k := 2) rfl (by rw [e9]; rfl) (by decide) rfl (fun ls hl => ?_)
        clear e9
        refine lv_goto (pc := 31) (tgt := 2) hx hb d_L_find_31 (by decide) ?_
        exact K2 h hw (lv_sub hl [1, 2, 0] rfl)
      · replace h := h.1 c9
        refine lv_aload_n (pc := 21) hx hb d_L_find_21 rfl (lv_at hl 0 rfl) ?_
        refine gC_17_places (pc := 22) fx hw kw_207 d_L_find_22 ?_
        refine lv_iload_n (pc := 25) hx hb d_L_find_25 rfl (lv_at hl 2 rfl) ?_
        refine alC_19 (pc := 26) fx hw h.1 d_L_find_26 ?_
        replace h := h.2
        exact HR rfl d_L_find_27 h hw
set_option maxHeartbeats 4000000 in
set_option maxRecDepth 100000 in
theorem e_L_find_17 (fx : CallFix p m c b_L_find 4 s args GW RNL) {post : Int32 → SS → Prop} (HR : RetI p l e r_L_find_17 s m args below meth c Q D vcl (tyl cA) (wC cA a) (XC ad) A b_L_find .int post) {σ : SS} {x1 : Int64} {H : Heap} {locs : List Loc} {ls : Array Slot} (h : f_L_find_17 post σ x1) (hw : CX D vcl (tyl cA) (wC cA a σ) (XC ad) A s H locs) (hl : lv_has ls 4 [(0, .ref (a 17)), (1, .long x1)]) : W p l e r_L_find_17 s m args below meth c H locs 0 0 Q (F0 m 0 ls []) := by
  have hx := fx.1
  have hb := fx.2.1
  unfold f_L_find_17 at h
  refine lv_iconst (pc := 0) (v := 0) hx hb d_L_find_0 (by decide) ?_
  refine lv_istore_n (pc := 1) (lv' := [(3, .int 0), (0, .ref (a 17)), (1, .long x1)]) hx hb d_L_find_1 rfl hl (by decide) rfl (fun ls hl => ?_)
  obtain ⟨n9, h⟩ := h
  exact c_L_find_17_2  fx HR n9 h hw (lv_sub hl [1, 2, 0] rfl)
end
theorem c_L_find_17 {l : Launch} {D : va_G} {cA : Nat → ClassId} {a : Nat → Nat} {ad : Nat → Nat → Nat} {σ : SS} {post : Int32 → SS → Prop} {x1 : Int64} (h : f_L_find_17 post σ x1) : mI l y_L_find b_L_find 4 (some .int) 0 0 D vcl (tyl cA) (wC cA a) (XC ad) σ [.ref (a 17), .long x1] post := met_I (by decide) (Nat.le_of_ble_eq_true rfl) (fun p e s m args below meth c A Q fx HR H ls hw hl => e_L_find_17  fx HR h hw hl)
abbrev r_L_add_14 : Room := { frames := 0, cells := 0, slots := 0, locals := 0 }
def f_L_add_14 (post : Int32 → SS → Prop) (σ : SS) (x1 : Int64) (x3 : Int32) : Prop := br ((σ.1 37) < 200) (vp_in (σ.1 37) 200 ∧ nm (sB σ 15 (σ.1 37).toNatClampNeg x1) fun σ_1 => vp_in (σ_1.1 37) 200 ∧ nm (sA σ_1 16 (σ_1.1 37).toNatClampNeg x3) fun σ_2 => nm (sI σ_2 37 ((σ_2.1 37) + 1)) fun σ_3 => post 1 σ_3) (post 0 σ)
section
variable {p : Program} {l : Launch} {e : Env} {s : State} {m : MethodId} {args : Array Value} {below : List Frame} {meth : Method} {c : Code} {Q : State → Prop} {D : va_G} {cA : Nat → ClassId} {a : Nat → Nat} {ad : Nat → Nat → Nat} {A : Nat → Prop}
set_option maxHeartbeats 4000000 in
set_option maxRecDepth 100000 in
theorem e_L_add_14 (fx : CallFix p m c b_L_add 4 s args GW RNL) {post : Int32 → SS → Prop} (HR : RetI p l e r_L_add_14 s m args below meth c Q D vcl (tyl cA) (wC cA a) (XC ad) A b_L_add .boolean (fun r σ => bz r ∧ post r σ)) {σ : SS} {x1 : Int64} {x3 : Int32} {H : Heap} {locs : List Loc} {ls : Array Slot} (h : f_L_add_14 post σ x1 x3) (hw : CX D vcl (tyl cA) (wC cA a σ) (XC ad) A s H locs) (hl : lv_has ls 4 [(0, .ref (a 14)), (1, .long x1), (3, .int x3)]) : W p l e r_L_add_14 s m args below meth c H locs 0 0 Q (F0 m 0 ls []) := by
  have hx := fx.1
  have hb := fx.2.1
  unfold f_L_add_14 at h
  refine lv_aload_n (pc := 0) hx hb d_L_add_0 rfl (lv_at hl 0 rfl) ?_
  refine gC_14_count (pc := 1) fx hw kw_208 d_L_add_1 ?_
  refine lv_sipush (pc := 4) (v := 200) hx hb d_L_add_4 (by decide) ?_
  refine lv_icmp_lt (pc := 7) (tgt := 12) hx hb d_L_add_7 (by decide) (fun c9 => ?_) (fun c9 => ?_)
  · replace h := h.1 c9
    refine lv_aload_n (pc := 12) hx hb d_L_add_12 rfl (lv_at hl 0 rfl) ?_
    refine gC_14_keys (pc := 13) fx hw kw_206 d_L_add_13 ?_
    refine lv_aload_n (pc := 16) hx hb d_L_add_16 rfl (lv_at hl 0 rfl) ?_
    refine gC_14_count (pc := 17) fx hw kw_208 d_L_add_17 ?_
    refine lv_lload_n (pc := 20) hx hb d_L_add_20 rfl (lv_at hl 1 rfl) ?_
    refine asC_15 (pc := 21) fx hw h.1 d_L_add_21 (fun σ_1 e9 H locs hw => ?_)
    replace h := nm_u h.2 e9
    clear e9
    refine lv_aload_n (pc := 22) hx hb d_L_add_22 rfl (lv_at hl 0 rfl) ?_
    refine gC_14_places (pc := 23) fx hw kw_207 d_L_add_23 ?_
    refine lv_aload_n (pc := 26) hx hb d_L_add_26 rfl (lv_at hl 0 rfl) ?_
    refine gC_14_count (pc := 27) fx hw kw_208 d_L_add_27 ?_
    refine lv_iload_n (pc := 30) hx hb d_L_add_30 rfl (lv_at hl 2 rfl) ?_
    refine asC_16 (pc := 31) fx hw h.1 d_L_add_31 (fun σ_2 e9 H locs hw => ?_)
    replace h := nm_u h.2 e9
    clear e9
    refine lv_aload_n (pc := 32) hx hb d_L_add_32 rfl (lv_at hl 0 rfl) ?_
    refine lv_dup (pc := 33) hx hb d_L_add_33 rfl ?_
    refine gC_14_count (pc := 34) fx hw kw_208 d_L_add_34 ?_
    refine lv_iconst (pc := 37) (v := 1) hx hb d_L_add_37 (by decide) ?_
    refine lv_iadd (pc := 38) hx hb d_L_add_38 ?_
    refine pC_14_count (pc := 39) fx hw kw_208 d_L_add_39 (fun σ_3 e9 H locs hw => ?_)
    replace h := nm_u h e9
    clear e9
    refine lv_iconst (pc := 42) (v := 1) hx hb d_L_add_42 (by decide) ?_
    exact HR (bz_n bz_1) d_L_add_43 ⟨bz_1, h⟩ hw
  · replace h := h.2 c9
    refine lv_iconst (pc := 10) (v := 0) hx hb d_L_add_10 (by decide) ?_
    exact HR (bz_n bz_0) d_L_add_11 ⟨bz_0, h⟩ hw
end
theorem c_L_add_14 {l : Launch} {D : va_G} {cA : Nat → ClassId} {a : Nat → Nat} {ad : Nat → Nat → Nat} {σ : SS} {post : Int32 → SS → Prop} {x1 : Int64} {x3 : Int32} (h : f_L_add_14 post σ x1 x3) : mI l y_L_add b_L_add 4 (some .boolean) 0 0 D vcl (tyl cA) (wC cA a) (XC ad) σ [.ref (a 14), .long x1, .int x3] (fun r σ => bz r ∧ post r σ) := met_I (by decide) (Nat.le_of_ble_eq_true rfl) (fun p e s m args below meth c A Q fx HR H ls hw hl => e_L_add_14  fx HR h hw hl)
abbrev r_L_add_17 : Room := { frames := 0, cells := 0, slots := 0, locals := 0 }
def f_L_add_17 (post : Int32 → SS → Prop) (σ : SS) (x1 : Int64) (x3 : Int32) : Prop := br ((σ.1 38) < 200) (vp_in (σ.1 38) 200 ∧ nm (sB σ 18 (σ.1 38).toNatClampNeg x1) fun σ_1 => vp_in (σ_1.1 38) 200 ∧ nm (sA σ_1 19 (σ_1.1 38).toNatClampNeg x3) fun σ_2 => nm (sI σ_2 38 ((σ_2.1 38) + 1)) fun σ_3 => post 1 σ_3) (post 0 σ)
section
variable {p : Program} {l : Launch} {e : Env} {s : State} {m : MethodId} {args : Array Value} {below : List Frame} {meth : Method} {c : Code} {Q : State → Prop} {D : va_G} {cA : Nat → ClassId} {a : Nat → Nat} {ad : Nat → Nat → Nat} {A : Nat → Prop}
set_option maxHeartbeats 4000000 in
set_option maxRecDepth 100000 in
theorem e_L_add_17 (fx : CallFix p m c b_L_add 4 s args GW RNL) {post : Int32 → SS → Prop} (HR : RetI p l e r_L_add_17 s m args below meth c Q D vcl (tyl cA) (wC cA a) (XC ad) A b_L_add .boolean (fun r σ => bz r ∧ post r σ)) {σ : SS} {x1 : Int64} {x3 : Int32} {H : Heap} {locs : List Loc} {ls : Array Slot} (h : f_L_add_17 post σ x1 x3) (hw : CX D vcl (tyl cA) (wC cA a σ) (XC ad) A s H locs) (hl : lv_has ls 4 [(0, .ref (a 17)), (1, .long x1), (3, .int x3)]) : W p l e r_L_add_17 s m args below meth c H locs 0 0 Q (F0 m 0 ls []) := by
  have hx := fx.1
  have hb := fx.2.1
  unfold f_L_add_17 at h
  refine lv_aload_n (pc := 0) hx hb d_L_add_0 rfl (lv_at hl 0 rfl) ?_
  refine gC_17_count (pc := 1) fx hw kw_208 d_L_add_1 ?_
  refine lv_sipush (pc := 4) (v := 200) hx hb d_L_add_4 (by decide) ?_
  refine lv_icmp_lt (pc := 7) (tgt := 12) hx hb d_L_add_7 (by decide) (fun c9 => ?_) (fun c9 => ?_)
  · replace h := h.1 c9
    refine lv_aload_n (pc := 12) hx hb d_L_add_12 rfl (lv_at hl 0 rfl) ?_
    refine gC_17_keys (pc := 13) fx hw kw_206 d_L_add_13 ?_
    refine lv_aload_n (pc := 16) hx hb d_L_add_16 rfl (lv_at hl 0 rfl) ?_
    refine gC_17_count (pc := 17) fx hw kw_208 d_L_add_17 ?_
    refine lv_lload_n (pc := 20) hx hb d_L_add_20 rfl (lv_at hl 1 rfl) ?_
    refine asC_18 (pc := 21) fx hw h.1 d_L_add_21 (fun σ_1 e9 H locs hw => ?_)
    replace h := nm_u h.2 e9
    clear e9
    refine lv_aload_n (pc := 22) hx hb d_L_add_22 rfl (lv_at hl 0 rfl) ?_
    refine gC_17_places (pc := 23) fx hw kw_207 d_L_add_23 ?_
    refine lv_aload_n (pc := 26) hx hb d_L_add_26 rfl (lv_at hl 0 rfl) ?_
    refine gC_17_count (pc := 27) fx hw kw_208 d_L_add_27 ?_
    refine lv_iload_n (pc := 30) hx hb d_L_add_30 rfl (lv_at hl 2 rfl) ?_
    refine asC_19 (pc := 31) fx hw h.1 d_L_add_31 (fun σ_2 e9 H locs hw => ?_)
    replace h := nm_u h.2 e9
    clear e9
    refine lv_aload_n (pc := 32) hx hb d_L_add_32 rfl (lv_at hl 0 rfl) ?_
    refine lv_dup (pc := 33) hx hb d_L_add_33 rfl ?_
    refine gC_17_count (pc := 34) fx hw kw_208 d_L_add_34 ?_
    refine lv_iconst (pc := 37) (v := 1) hx hb d_L_add_37 (by decide) ?_
    refine lv_iadd (pc := 38) hx hb d_L_add_38 ?_
    refine pC_17_count (pc := 39) fx hw kw_208 d_L_add_39 (fun σ_3 e9 H locs hw => ?_)
    replace h := nm_u h e9
    clear e9
    refine lv_iconst (pc := 42) (v := 1) hx hb d_L_add_42 (by decide) ?_
    exact HR (bz_n bz_1) d_L_add_43 ⟨bz_1, h⟩ hw
  · replace h := h.2 c9
    refine lv_iconst (pc := 10) (v := 0) hx hb d_L_add_10 (by decide) ?_
    exact HR (bz_n bz_0) d_L_add_11 ⟨bz_0, h⟩ hw
end
theorem c_L_add_17 {l : Launch} {D : va_G} {cA : Nat → ClassId} {a : Nat → Nat} {ad : Nat → Nat → Nat} {σ : SS} {post : Int32 → SS → Prop} {x1 : Int64} {x3 : Int32} (h : f_L_add_17 post σ x1 x3) : mI l y_L_add b_L_add 4 (some .boolean) 0 0 D vcl (tyl cA) (wC cA a) (XC ad) σ [.ref (a 17), .long x1, .int x3] (fun r σ => bz r ∧ post r σ) := met_I (by decide) (Nat.le_of_ble_eq_true rfl) (fun p e s m args below meth c A Q fx HR H ls hw hl => e_L_add_17  fx HR h hw hl)
abbrev r_L_clear_14 : Room := { frames := 0, cells := 0, slots := 0, locals := 0 }
def f_L_clear_14 (post : SS → Prop) (σ : SS) : Prop := nm (sI σ 37 0) fun σ_1 => post σ_1
section
variable {p : Program} {l : Launch} {e : Env} {s : State} {m : MethodId} {args : Array Value} {below : List Frame} {meth : Method} {c : Code} {Q : State → Prop} {D : va_G} {cA : Nat → ClassId} {a : Nat → Nat} {ad : Nat → Nat → Nat} {A : Nat → Prop}
set_option maxHeartbeats 4000000 in
set_option maxRecDepth 100000 in
theorem e_L_clear_14 (fx : CallFix p m c b_L_clear 1 s args GW RNL) {post : SS → Prop} (HR : RetV p l e r_L_clear_14 s m args below meth c Q D vcl (tyl cA) (wC cA a) (XC ad) A b_L_clear post) {σ : SS} {H : Heap} {locs : List Loc} {ls : Array Slot} (h : f_L_clear_14 post σ) (hw : CX D vcl (tyl cA) (wC cA a σ) (XC ad) A s H locs) (hl : lv_has ls 1 [(0, .ref (a 14))]) : W p l e r_L_clear_14 s m args below meth c H locs 0 0 Q (F0 m 0 ls []) := by
  have hx := fx.1
  have hb := fx.2.1
  unfold f_L_clear_14 at h
  refine lv_aload_n (pc := 0) hx hb d_L_clear_0 rfl (lv_at hl 0 rfl) ?_
  refine lv_iconst (pc := 1) (v := 0) hx hb d_L_clear_1 (by decide) ?_
  refine pC_14_count (pc := 2) fx hw kw_208 d_L_clear_2 (fun σ_1 e9 H locs hw => ?_)
  replace h := nm_u h e9
  clear e9
  exact HR d_L_clear_5 h hw
end
theorem c_L_clear_14 {l : Launch} {D : va_G} {cA : Nat → ClassId} {a : Nat → Nat} {ad : Nat → Nat → Nat} {σ : SS} {post : SS → Prop} (h : f_L_clear_14 post σ) : mV l y_L_clear b_L_clear 1 none 0 0 D vcl (tyl cA) (wC cA a) (XC ad) σ [.ref (a 14)] post := met_V (by decide) (Nat.le_of_ble_eq_true rfl) (fun p e s m args below meth c A Q fx HR H ls hw hl => e_L_clear_14  fx HR h hw hl)
abbrev r_L_clear_17 : Room := { frames := 0, cells := 0, slots := 0, locals := 0 }
def f_L_clear_17 (post : SS → Prop) (σ : SS) : Prop := nm (sI σ 38 0) fun σ_1 => post σ_1
section
variable {p : Program} {l : Launch} {e : Env} {s : State} {m : MethodId} {args : Array Value} {below : List Frame} {meth : Method} {c : Code} {Q : State → Prop} {D : va_G} {cA : Nat → ClassId} {a : Nat → Nat} {ad : Nat → Nat → Nat} {A : Nat → Prop}
set_option maxHeartbeats 4000000 in
set_option maxRecDepth 100000 in
theorem e_L_clear_17 (fx : CallFix p m c b_L_clear 1 s args GW RNL) {post : SS → Prop} (HR : RetV p l e r_L_clear_17 s m args below meth c Q D vcl (tyl cA) (wC cA a) (XC ad) A b_L_clear post) {σ : SS} {H : Heap} {locs : List Loc} {ls : Array Slot} (h : f_L_clear_17 post σ) (hw : CX D vcl (tyl cA) (wC cA a σ) (XC ad) A s H locs) (hl : lv_has ls 1 [(0, .ref (a 17))]) : W p l e r_L_clear_17 s m args below meth c H locs 0 0 Q (F0 m 0 ls []) := by
  have hx := fx.1
  have hb := fx.2.1
  unfold f_L_clear_17 at h
  refine lv_aload_n (pc := 0) hx hb d_L_clear_0 rfl (lv_at hl 0 rfl) ?_
  refine lv_iconst (pc := 1) (v := 0) hx hb d_L_clear_1 (by decide) ?_
  refine pC_17_count (pc := 2) fx hw kw_208 d_L_clear_2 (fun σ_1 e9 H locs hw => ?_)
  replace h := nm_u h e9
  clear e9
  exact HR d_L_clear_5 h hw
end
theorem c_L_clear_17 {l : Launch} {D : va_G} {cA : Nat → ClassId} {a : Nat → Nat} {ad : Nat → Nat → Nat} {σ : SS} {post : SS → Prop} (h : f_L_clear_17 post σ) : mV l y_L_clear b_L_clear 1 none 0 0 D vcl (tyl cA) (wC cA a) (XC ad) σ [.ref (a 17)] post := met_V (by decide) (Nat.le_of_ble_eq_true rfl) (fun p e s m args below meth c A Q fx HR H ls hw hl => e_L_clear_17  fx HR h hw hl)
abbrev r_I_appendFour : Room := { frames := 0, cells := 0, slots := 0, locals := 0 }
def f_I_appendFour_44 (post : SS → Prop) (k3 : SS → Int32 → Int32 → Prop) (σ : SS) (x1 : Int32) (x2 : Int32) : Prop := nm (x2 + (-8)) fun x2_1 => k3 σ x1 x2_1
def f_I_appendFour_3 (post : SS → Prop) : Nat → SS → Int32 → Int32 → Prop
  | 0, _, _, _ => False
  | n + 1, σ, x1, x2 => br (x2 < 0) (post σ) (br (6000 ≤ (σ.1 34)) (f_I_appendFour_44 post (f_I_appendFour_3 post n) σ x1 x2) (vp_in (σ.1 34) 6000 ∧ nm (sA σ 12 (σ.1 34).toNatClampNeg (vp_nar .char ((((x1 >>> (x2 &&& 31)) &&& 255).toUInt32 % 65536).toInt32))) fun σ_2 => nm (sI σ_2 34 ((σ_2.1 34) + 1)) fun σ_3 => f_I_appendFour_44 post (f_I_appendFour_3 post n) σ_3 x1 x2))
def f_I_appendFour (post : SS → Prop) (σ : SS) (x1 : Int32) : Prop := ∃ n9, f_I_appendFour_3 post n9 σ x1 24
section
variable {p : Program} {l : Launch} {e : Env} {s : State} {m : MethodId} {args : Array Value} {below : List Frame} {meth : Method} {c : Code} {Q : State → Prop} {D : va_G} {cA : Nat → ClassId} {a : Nat → Nat} {ad : Nat → Nat → Nat} {A : Nat → Prop}
set_option maxHeartbeats 4000000 in
set_option maxRecDepth 100000 in
theorem c_I_appendFour_44 (fx : CallFix p m c b_I_appendFour 3 s args GW RNI) {post : SS → Prop} (HR : RetV p l e r_I_appendFour s m args below meth c Q D vcl (tyl cA) (wC cA a) (XC ad) A b_I_appendFour post) {k3 : SS → Int32 → Int32 → Prop} (K3 : ∀ {σ : SS} {x1 : Int32} {x2 : Int32} {H : Heap} {locs : List Loc} {ls : Array Slot}, k3 σ x1 x2 → CX D vcl (tyl cA) (wC cA a σ) (XC ad) A s H locs → lv_has ls 3 [(0, .ref (a 11)), (1, .int x1), (2, .int x2)] → W p l e r_I_appendFour s m args below meth c H locs 0 0 Q (F0 m 3 ls [])) {σ : SS} {x1 : Int32} {x2 : Int32} {H : Heap} {locs : List Loc} {ls : Array Slot} (h : f_I_appendFour_44 post k3 σ x1 x2) (hw : CX D vcl (tyl cA) (wC cA a σ) (XC ad) A s H locs) (hl : lv_has ls 3 [(0, .ref (a 11)), (1, .int x1), (2, .int x2)]) : W p l e r_I_appendFour s m args below meth c H locs 0 0 Q (F0 m 44 ls []) := by
  have hx := fx.1
  have hb := fx.2.1
  unfold f_I_appendFour_44 at h
  obtain ⟨x2_1, e9⟩ : ∃ z : Int32, z = x2 + (-8) := ⟨_, rfl⟩
  replace h := nm_u h e9
  refine lv_iinc (pc := 44) (v := x2_1) (lv' := [(2, .int x2_1), (0, .ref (a 11)), (1, .int x1)]) hx hb d_I_appendFour_44 hl (k := 2) rfl (by rw [e9]; rfl) (by decide) rfl (fun ls hl => ?_)
  clear e9
  refine lv_goto (pc := 47) (tgt := 3) hx hb d_I_appendFour_47 (by decide) ?_
  exact K3 h hw (lv_sub hl [1, 2, 0] rfl)
set_option maxHeartbeats 4000000 in
set_option maxRecDepth 100000 in
theorem c_I_appendFour_3 (fx : CallFix p m c b_I_appendFour 3 s args GW RNI) {post : SS → Prop} (HR : RetV p l e r_I_appendFour s m args below meth c Q D vcl (tyl cA) (wC cA a) (XC ad) A b_I_appendFour post) : ∀ (n : Nat) {σ : SS} {x1 : Int32} {x2 : Int32} {H : Heap} {locs : List Loc} {ls : Array Slot}, f_I_appendFour_3 post n σ x1 x2 → CX D vcl (tyl cA) (wC cA a σ) (XC ad) A s H locs → lv_has ls 3 [(0, .ref (a 11)), (1, .int x1), (2, .int x2)] → W p l e r_I_appendFour s m args below meth c H locs 0 0 Q (F0 m 3 ls []) := by
  have hx := fx.1
  have hb := fx.2.1
  intro n
  induction n with
  | zero => intro σ x1 x2 H locs ls h; exact h.elim
  | succ n ih =>
    intro σ x1 x2 H locs ls h hw hl
    have K3 := @ih
    unfold f_I_appendFour_3 at h
    refine lv_iload_n (pc := 3) hx hb d_I_appendFour_3 rfl (lv_at hl 2 rfl) ?_
    refine lv_if_lt (pc := 4) (tgt := 50) hx hb d_I_appendFour_4 (by decide) (fun c9 => ?_) (fun c9 => ?_)
    · replace h := h.1 c9
      exact HR d_I_appendFour_50 h hw
    · replace h := h.2 c9
      refine lv_aload_n (pc := 7) hx hb d_I_appendFour_7 rfl (lv_at hl 0 rfl) ?_
      refine gC_11_length (pc := 8) fx hw kw_182 d_I_appendFour_8 ?_
      refine lv_sipush (pc := 11) (v := 6000) hx hb d_I_appendFour_11 (by decide) ?_
      refine lv_icmp_ge (pc := 14) (tgt := 44) hx hb d_I_appendFour_14 (by decide) (fun c9 => ?_) (fun c9 => ?_)
      · replace h := h.1 c9
        exact c_I_appendFour_44  fx HR K3 h hw (lv_sub hl [0, 1, 2] rfl)
      · replace h := h.2 c9
        refine lv_aload_n (pc := 17) hx hb d_I_appendFour_17 rfl (lv_at hl 0 rfl) ?_
        refine gC_11_text (pc := 18) fx hw kw_180 d_I_appendFour_18 ?_
        refine lv_aload_n (pc := 21) hx hb d_I_appendFour_21 rfl (lv_at hl 0 rfl) ?_
        refine gC_11_length (pc := 22) fx hw kw_182 d_I_appendFour_22 ?_
        refine lv_iload_n (pc := 25) hx hb d_I_appendFour_25 rfl (lv_at hl 1 rfl) ?_
        refine lv_iload_n (pc := 26) hx hb d_I_appendFour_26 rfl (lv_at hl 2 rfl) ?_
        refine lv_ishr (pc := 27) hx hb d_I_appendFour_27 ?_
        refine lv_sipush (pc := 28) (v := 255) hx hb d_I_appendFour_28 (by decide) ?_
        refine lv_iand (pc := 31) hx hb d_I_appendFour_31 ?_
        refine lv_i2c (pc := 32) hx hb d_I_appendFour_32 rfl ?_
        refine asC_12 (pc := 33) fx hw h.1 d_I_appendFour_33 (fun σ_2 e9 H locs hw => ?_)
        replace h := nm_u h.2 e9
        clear e9
        refine lv_aload_n (pc := 34) hx hb d_I_appendFour_34 rfl (lv_at hl 0 rfl) ?_
        refine lv_dup (pc := 35) hx hb d_I_appendFour_35 rfl ?_
        refine gC_11_length (pc := 36) fx hw kw_182 d_I_appendFour_36 ?_
        refine lv_iconst (pc := 39) (v := 1) hx hb d_I_appendFour_39 (by decide) ?_
        refine lv_iadd (pc := 40) hx hb d_I_appendFour_40 ?_
        refine pC_11_length (pc := 41) fx hw kw_182 d_I_appendFour_41 (fun σ_3 e9 H locs hw => ?_)
        replace h := nm_u h e9
        clear e9
        exact c_I_appendFour_44  fx HR K3 h hw (lv_sub hl [0, 1, 2] rfl)
set_option maxHeartbeats 4000000 in
set_option maxRecDepth 100000 in
theorem e_I_appendFour (fx : CallFix p m c b_I_appendFour 3 s args GW RNI) {post : SS → Prop} (HR : RetV p l e r_I_appendFour s m args below meth c Q D vcl (tyl cA) (wC cA a) (XC ad) A b_I_appendFour post) {σ : SS} {x1 : Int32} {H : Heap} {locs : List Loc} {ls : Array Slot} (h : f_I_appendFour post σ x1) (hw : CX D vcl (tyl cA) (wC cA a σ) (XC ad) A s H locs) (hl : lv_has ls 3 [(0, .ref (a 11)), (1, .int x1)]) : W p l e r_I_appendFour s m args below meth c H locs 0 0 Q (F0 m 0 ls []) := by
  have hx := fx.1
  have hb := fx.2.1
  unfold f_I_appendFour at h
  refine lv_bipush (pc := 0) (v := 24) hx hb d_I_appendFour_0 (by decide) ?_
  refine lv_istore_n (pc := 2) (lv' := [(2, .int 24), (0, .ref (a 11)), (1, .int x1)]) hx hb d_I_appendFour_2 rfl hl (by decide) rfl (fun ls hl => ?_)
  obtain ⟨n9, h⟩ := h
  exact c_I_appendFour_3  fx HR n9 h hw (lv_sub hl [1, 2, 0] rfl)
end
theorem c_I_appendFour {l : Launch} {D : va_G} {cA : Nat → ClassId} {a : Nat → Nat} {ad : Nat → Nat → Nat} {σ : SS} {post : SS → Prop} {x1 : Int32} (h : f_I_appendFour post σ x1) : mV l y_I_appendFour b_I_appendFour 3 none 0 0 D vcl (tyl cA) (wC cA a) (XC ad) σ [.ref (a 11), .int x1] post := met_V (by decide) (Nat.le_of_ble_eq_true rfl) (fun p e s m args below meth c A Q fx HR H ls hw hl => e_I_appendFour  fx HR h hw hl)
abbrev r_I_kindAt : Room := { frames := 0, cells := 0, slots := 0, locals := 0 }
def f_I_kindAt (post : Int32 → SS → Prop) (σ : SS) (x1 : Int32) : Prop := br (x1 < 0) (post 10 σ) (br ((σ.1 35) ≤ x1) (post 10 σ) (vp_in x1 6001 ∧ post (((σ.2.2.2 13 x1.toNatClampNeg).toInt32) &&& 65535) σ))
section
variable {p : Program} {l : Launch} {e : Env} {s : State} {m : MethodId} {args : Array Value} {below : List Frame} {meth : Method} {c : Code} {Q : State → Prop} {D : va_G} {cA : Nat → ClassId} {a : Nat → Nat} {ad : Nat → Nat → Nat} {A : Nat → Prop}
set_option maxHeartbeats 4000000 in
set_option maxRecDepth 100000 in
theorem e_I_kindAt (fx : CallFix p m c b_I_kindAt 2 s args GW RNI) {post : Int32 → SS → Prop} (HR : RetI p l e r_I_kindAt s m args below meth c Q D vcl (tyl cA) (wC cA a) (XC ad) A b_I_kindAt .int post) {σ : SS} {x1 : Int32} {H : Heap} {locs : List Loc} {ls : Array Slot} (h : f_I_kindAt post σ x1) (hw : CX D vcl (tyl cA) (wC cA a σ) (XC ad) A s H locs) (hl : lv_has ls 2 [(0, .ref (a 11)), (1, .int x1)]) : W p l e r_I_kindAt s m args below meth c H locs 0 0 Q (F0 m 0 ls []) := by
  have hx := fx.1
  have hb := fx.2.1
  unfold f_I_kindAt at h
  refine lv_iload_n (pc := 0) hx hb d_I_kindAt_0 rfl (lv_at hl 1 rfl) ?_
  refine lv_if_lt (pc := 1) (tgt := 25) hx hb d_I_kindAt_1 (by decide) (fun c9 => ?_) (fun c9 => ?_)
  · replace h := h.1 c9
    refine lv_bipush (pc := 25) (v := 10) hx hb d_I_kindAt_25 (by decide) ?_
    exact HR rfl d_I_kindAt_27 h hw
  · replace h := h.2 c9
    refine lv_iload_n (pc := 4) hx hb d_I_kindAt_4 rfl (lv_at hl 1 rfl) ?_
    refine lv_aload_n (pc := 5) hx hb d_I_kindAt_5 rfl (lv_at hl 0 rfl) ?_
    refine gC_11_count (pc := 6) fx hw kw_185 d_I_kindAt_6 ?_
    refine lv_icmp_ge (pc := 9) (tgt := 25) hx hb d_I_kindAt_9 (by decide) (fun c9 => ?_) (fun c9 => ?_)
    · replace h := h.1 c9
      refine lv_bipush (pc := 25) (v := 10) hx hb d_I_kindAt_25 (by decide) ?_
      exact HR rfl d_I_kindAt_27 h hw
    · replace h := h.2 c9
      refine lv_aload_n (pc := 12) hx hb d_I_kindAt_12 rfl (lv_at hl 0 rfl) ?_
      refine gC_11_items (pc := 13) fx hw kw_184 d_I_kindAt_13 ?_
      refine lv_iload_n (pc := 16) hx hb d_I_kindAt_16 rfl (lv_at hl 1 rfl) ?_
      refine alC_13 (pc := 17) fx hw h.1 d_I_kindAt_17 ?_
      replace h := h.2
      refine lv_l2i (pc := 18) hx hb d_I_kindAt_18 rfl ?_
      refine lv_ldc (pc := 19) (v := 65535) hx hb fx.2.2.2.1 (fx.2.2.2.2 _ kw_492) d_I_kindAt_19 ?_
      refine lv_iand (pc := 21) hx hb d_I_kindAt_21 ?_
      refine lv_goto (pc := 22) (tgt := 27) hx hb d_I_kindAt_22 (by decide) ?_
      exact HR rfl d_I_kindAt_27 h hw
end
theorem c_I_kindAt {l : Launch} {D : va_G} {cA : Nat → ClassId} {a : Nat → Nat} {ad : Nat → Nat → Nat} {σ : SS} {post : Int32 → SS → Prop} {x1 : Int32} (h : f_I_kindAt post σ x1) : mI l y_I_kindAt b_I_kindAt 2 (some .int) 0 0 D vcl (tyl cA) (wC cA a) (XC ad) σ [.ref (a 11), .int x1] post := met_I (by decide) (Nat.le_of_ble_eq_true rfl) (fun p e s m args below meth c A Q fx HR H ls hw hl => e_I_kindAt  fx HR h hw hl)
abbrev r_I_nameAt : Room := { frames := 0, cells := 0, slots := 0, locals := 0 }
def f_I_nameAt (post : Int64 → SS → Prop) (σ : SS) (x1 : Int32) : Prop := br (x1 < 0) (post 0 σ) (br ((σ.1 35) ≤ x1) (post 0 σ) (vp_in x1 6001 ∧ post ((σ.2.2.2 13 x1.toNatClampNeg) &&& (-65536)) σ))
section
variable {p : Program} {l : Launch} {e : Env} {s : State} {m : MethodId} {args : Array Value} {below : List Frame} {meth : Method} {c : Code} {Q : State → Prop} {D : va_G} {cA : Nat → ClassId} {a : Nat → Nat} {ad : Nat → Nat → Nat} {A : Nat → Prop}
set_option maxHeartbeats 4000000 in
set_option maxRecDepth 100000 in
theorem e_I_nameAt (fx : CallFix p m c b_I_nameAt 2 s args GW RNI) {post : Int64 → SS → Prop} (HR : RetJ p l e r_I_nameAt s m args below meth c Q D vcl (tyl cA) (wC cA a) (XC ad) A b_I_nameAt post) {σ : SS} {x1 : Int32} {H : Heap} {locs : List Loc} {ls : Array Slot} (h : f_I_nameAt post σ x1) (hw : CX D vcl (tyl cA) (wC cA a σ) (XC ad) A s H locs) (hl : lv_has ls 2 [(0, .ref (a 11)), (1, .int x1)]) : W p l e r_I_nameAt s m args below meth c H locs 0 0 Q (F0 m 0 ls []) := by
  have hx := fx.1
  have hb := fx.2.1
  unfold f_I_nameAt at h
  refine lv_iload_n (pc := 0) hx hb d_I_nameAt_0 rfl (lv_at hl 1 rfl) ?_
  refine lv_if_lt (pc := 1) (tgt := 25) hx hb d_I_nameAt_1 (by decide) (fun c9 => ?_) (fun c9 => ?_)
  · replace h := h.1 c9
    refine lv_lconst (pc := 25) (v := 0) hx hb d_I_nameAt_25 (by decide) ?_
    exact HR d_I_nameAt_26 h hw
  · replace h := h.2 c9
    refine lv_iload_n (pc := 4) hx hb d_I_nameAt_4 rfl (lv_at hl 1 rfl) ?_
    refine lv_aload_n (pc := 5) hx hb d_I_nameAt_5 rfl (lv_at hl 0 rfl) ?_
    refine gC_11_count (pc := 6) fx hw kw_185 d_I_nameAt_6 ?_
    refine lv_icmp_ge (pc := 9) (tgt := 25) hx hb d_I_nameAt_9 (by decide) (fun c9 => ?_) (fun c9 => ?_)
    · replace h := h.1 c9
      refine lv_lconst (pc := 25) (v := 0) hx hb d_I_nameAt_25 (by decide) ?_
      exact HR d_I_nameAt_26 h hw
    · replace h := h.2 c9
      refine lv_aload_n (pc := 12) hx hb d_I_nameAt_12 rfl (lv_at hl 0 rfl) ?_
      refine gC_11_items (pc := 13) fx hw kw_184 d_I_nameAt_13 ?_
      refine lv_iload_n (pc := 16) hx hb d_I_nameAt_16 rfl (lv_at hl 1 rfl) ?_
      refine alC_13 (pc := 17) fx hw h.1 d_I_nameAt_17 ?_
      replace h := h.2
      refine lv_ldc2 (pc := 18) (v := (-65536)) hx hb fx.2.2.2.1 (fx.2.2.2.2 _ kw_513) d_I_nameAt_18 ?_
      refine lv_land (pc := 21) hx hb d_I_nameAt_21 ?_
      refine lv_goto (pc := 22) (tgt := 26) hx hb d_I_nameAt_22 (by decide) ?_
      exact HR d_I_nameAt_26 h hw
end
theorem c_I_nameAt {l : Launch} {D : va_G} {cA : Nat → ClassId} {a : Nat → Nat} {ad : Nat → Nat → Nat} {σ : SS} {post : Int64 → SS → Prop} {x1 : Int32} (h : f_I_nameAt post σ x1) : mJ l y_I_nameAt b_I_nameAt 2 (some .long) 0 0 D vcl (tyl cA) (wC cA a) (XC ad) σ [.ref (a 11), .int x1] post := met_J (by decide) (Nat.le_of_ble_eq_true rfl) (fun p e s m args below meth c A Q fx HR H ls hw hl => e_I_nameAt  fx HR h hw hl)
abbrev r_I_numberAt : Room := { frames := 1, cells := 0, slots := 0, locals := 21 }
def f_I_numberAt (post : Int32 → SS → Prop) (σ : SS) (x1 : Int32) : Prop := f_I_nameAt (fun r_2 σ_1 => post ((r_2 >>> ((16 : Int32).toInt64 &&& 63)).toInt32) σ_1) σ x1
section
variable {p : Program} {l : Launch} {e : Env} {s : State} {m : MethodId} {args : Array Value} {below : List Frame} {meth : Method} {c : Code} {Q : State → Prop} {D : va_G} {cA : Nat → ClassId} {a : Nat → Nat} {ad : Nat → Nat → Nat} {A : Nat → Prop}
set_option maxHeartbeats 4000000 in
set_option maxRecDepth 100000 in
theorem e_I_numberAt (fx : CallFix p m c b_I_numberAt 2 s args GW RNI) {post : Int32 → SS → Prop} (HR : RetI p l e r_I_numberAt s m args below meth c Q D vcl (tyl cA) (wC cA a) (XC ad) A b_I_numberAt .int post) {σ : SS} {x1 : Int32} {H : Heap} {locs : List Loc} {ls : Array Slot} (h : f_I_numberAt post σ x1) (hw : CX D vcl (tyl cA) (wC cA a σ) (XC ad) A s H locs) (hl : lv_has ls 2 [(0, .ref (a 11)), (1, .int x1)]) : W p l e r_I_numberAt s m args below meth c H locs 0 0 Q (F0 m 0 ls []) := by
  have hx := fx.1
  have hb := fx.2.1
  unfold f_I_numberAt at h
  refine lv_aload_n (pc := 0) hx hb d_I_numberAt_0 rfl (lv_at hl 0 rfl) ?_
  refine lv_iload_n (pc := 1) hx hb d_I_numberAt_1 rfl (lv_at hl 1 rfl) ?_
  refine rsJ (pc := 2) hw (rnV (pc := 2) xtC fx hw (c_I_nameAt h _) cw_I_29 (rcC_11 hw) rfl ⟨Nat.le_of_ble_eq_true rfl, Nat.le_of_ble_eq_true rfl⟩ hl.1 (Nat.le_of_ble_eq_true rfl) d_I_numberAt_2 ⟨Nat.zero_le _, Nat.zero_le _⟩) (fun r_2 σ_1 H locs hw h => ?_)
  refine lv_bipush (pc := 5) (v := 16) hx hb d_I_numberAt_5 (by decide) ?_
  refine lv_lshr (pc := 7) hx hb d_I_numberAt_7 rfl ?_
  refine lv_l2i (pc := 8) hx hb d_I_numberAt_8 rfl ?_
  exact HR rfl d_I_numberAt_9 h hw
end
theorem c_I_numberAt {l : Launch} {D : va_G} {cA : Nat → ClassId} {a : Nat → Nat} {ad : Nat → Nat → Nat} {σ : SS} {post : Int32 → SS → Prop} {x1 : Int32} (h : f_I_numberAt post σ x1) : mI l y_I_numberAt b_I_numberAt 2 (some .int) 1 21 D vcl (tyl cA) (wC cA a) (XC ad) σ [.ref (a 11), .int x1] post := met_I (by decide) (Nat.le_of_ble_eq_true rfl) (fun p e s m args below meth c A Q fx HR H ls hw hl => e_I_numberAt  fx HR h hw hl)
abbrev r_I_add : Room := { frames := 0, cells := 0, slots := 0, locals := 0 }
def f_I_add (post : SS → Prop) (σ : SS) (x1 : Int64) : Prop := br (6001 ≤ (σ.1 35)) (post σ) (vp_in (σ.1 35) 6001 ∧ nm (sB σ 13 (σ.1 35).toNatClampNeg x1) fun σ_1 => nm (sI σ_1 35 ((σ_1.1 35) + 1)) fun σ_2 => post σ_2)
section
variable {p : Program} {l : Launch} {e : Env} {s : State} {m : MethodId} {args : Array Value} {below : List Frame} {meth : Method} {c : Code} {Q : State → Prop} {D : va_G} {cA : Nat → ClassId} {a : Nat → Nat} {ad : Nat → Nat → Nat} {A : Nat → Prop}
set_option maxHeartbeats 4000000 in
set_option maxRecDepth 100000 in
theorem e_I_add (fx : CallFix p m c b_I_add 3 s args GW RNI) {post : SS → Prop} (HR : RetV p l e r_I_add s m args below meth c Q D vcl (tyl cA) (wC cA a) (XC ad) A b_I_add post) {σ : SS} {x1 : Int64} {H : Heap} {locs : List Loc} {ls : Array Slot} (h : f_I_add post σ x1) (hw : CX D vcl (tyl cA) (wC cA a σ) (XC ad) A s H locs) (hl : lv_has ls 3 [(0, .ref (a 11)), (1, .long x1)]) : W p l e r_I_add s m args below meth c H locs 0 0 Q (F0 m 0 ls []) := by
  have hx := fx.1
  have hb := fx.2.1
  unfold f_I_add at h
  refine lv_aload_n (pc := 0) hx hb d_I_add_0 rfl (lv_at hl 0 rfl) ?_
  refine gC_11_count (pc := 1) fx hw kw_185 d_I_add_1 ?_
  refine lv_aload_n (pc := 4) hx hb d_I_add_4 rfl (lv_at hl 0 rfl) ?_
  refine gC_11_items (pc := 5) fx hw kw_184 d_I_add_5 ?_
  refine anC_13 (pc := 8) fx hw d_I_add_8 ?_
  refine lv_icmp_ge (pc := 9) (tgt := 32) hx hb d_I_add_9 (by decide) (fun c9 => ?_) (fun c9 => ?_)
  · replace h := h.1 c9
    exact HR d_I_add_32 h hw
  · replace h := h.2 c9
    refine lv_aload_n (pc := 12) hx hb d_I_add_12 rfl (lv_at hl 0 rfl) ?_
    refine gC_11_items (pc := 13) fx hw kw_184 d_I_add_13 ?_
    refine lv_aload_n (pc := 16) hx hb d_I_add_16 rfl (lv_at hl 0 rfl) ?_
    refine gC_11_count (pc := 17) fx hw kw_185 d_I_add_17 ?_
    refine lv_lload_n (pc := 20) hx hb d_I_add_20 rfl (lv_at hl 1 rfl) ?_
    refine asC_13 (pc := 21) fx hw h.1 d_I_add_21 (fun σ_1 e9 H locs hw => ?_)
    replace h := nm_u h.2 e9
    clear e9
    refine lv_aload_n (pc := 22) hx hb d_I_add_22 rfl (lv_at hl 0 rfl) ?_
    refine lv_dup (pc := 23) hx hb d_I_add_23 rfl ?_
    refine gC_11_count (pc := 24) fx hw kw_185 d_I_add_24 ?_
    refine lv_iconst (pc := 27) (v := 1) hx hb d_I_add_27 (by decide) ?_
    refine lv_iadd (pc := 28) hx hb d_I_add_28 ?_
    refine pC_11_count (pc := 29) fx hw kw_185 d_I_add_29 (fun σ_2 e9 H locs hw => ?_)
    replace h := nm_u h e9
    clear e9
    exact HR d_I_add_32 h hw
end
theorem c_I_add {l : Launch} {D : va_G} {cA : Nat → ClassId} {a : Nat → Nat} {ad : Nat → Nat → Nat} {σ : SS} {post : SS → Prop} {x1 : Int64} (h : f_I_add post σ x1) : mV l y_I_add b_I_add 3 none 0 0 D vcl (tyl cA) (wC cA a) (XC ad) σ [.ref (a 11), .long x1] post := met_V (by decide) (Nat.le_of_ble_eq_true rfl) (fun p e s m args below meth c A Q fx HR H ls hw hl => e_I_add  fx HR h hw hl)
abbrev r_I_isDigit : Room := { frames := 0, cells := 0, slots := 0, locals := 0 }
def f_I_isDigit (post : Int32 → SS → Prop) (σ : SS) (x0 : Int32) : Prop := br (x0 < 48) (post 0 σ) (br (57 < x0) (post 0 σ) (post 1 σ))
section
variable {p : Program} {l : Launch} {e : Env} {s : State} {m : MethodId} {args : Array Value} {below : List Frame} {meth : Method} {c : Code} {Q : State → Prop} {D : va_G} {cA : Nat → ClassId} {a : Nat → Nat} {ad : Nat → Nat → Nat} {A : Nat → Prop}
set_option maxHeartbeats 4000000 in
set_option maxRecDepth 100000 in
theorem e_I_isDigit (fx : CallFix p m c b_I_isDigit 1 s args GW RNI) {post : Int32 → SS → Prop} (HR : RetI p l e r_I_isDigit s m args below meth c Q D vcl (tyl cA) (wC cA a) (XC ad) A b_I_isDigit .boolean (fun r σ => bz r ∧ post r σ)) {σ : SS} {x0 : Int32} {H : Heap} {locs : List Loc} {ls : Array Slot} (h : f_I_isDigit post σ x0) (hw : CX D vcl (tyl cA) (wC cA a σ) (XC ad) A s H locs) (hl : lv_has ls 1 [(0, .int x0)]) : W p l e r_I_isDigit s m args below meth c H locs 0 0 Q (F0 m 0 ls []) := by
  have hx := fx.1
  have hb := fx.2.1
  unfold f_I_isDigit at h
  refine lv_iload_n (pc := 0) hx hb d_I_isDigit_0 rfl (lv_at hl 0 rfl) ?_
  refine lv_bipush (pc := 1) (v := 48) hx hb d_I_isDigit_1 (by decide) ?_
  refine lv_icmp_lt (pc := 3) (tgt := 16) hx hb d_I_isDigit_3 (by decide) (fun c9 => ?_) (fun c9 => ?_)
  · replace h := h.1 c9
    refine lv_iconst (pc := 16) (v := 0) hx hb d_I_isDigit_16 (by decide) ?_
    exact HR (bz_n bz_0) d_I_isDigit_17 ⟨bz_0, h⟩ hw
  · replace h := h.2 c9
    refine lv_iload_n (pc := 6) hx hb d_I_isDigit_6 rfl (lv_at hl 0 rfl) ?_
    refine lv_bipush (pc := 7) (v := 57) hx hb d_I_isDigit_7 (by decide) ?_
    refine lv_icmp_gt (pc := 9) (tgt := 16) hx hb d_I_isDigit_9 (by decide) (fun c9 => ?_) (fun c9 => ?_)
    · replace h := h.1 c9
      refine lv_iconst (pc := 16) (v := 0) hx hb d_I_isDigit_16 (by decide) ?_
      exact HR (bz_n bz_0) d_I_isDigit_17 ⟨bz_0, h⟩ hw
    · replace h := h.2 c9
      refine lv_iconst (pc := 12) (v := 1) hx hb d_I_isDigit_12 (by decide) ?_
      refine lv_goto (pc := 13) (tgt := 17) hx hb d_I_isDigit_13 (by decide) ?_
      exact HR (bz_n bz_1) d_I_isDigit_17 ⟨bz_1, h⟩ hw
end
theorem c_I_isDigit {l : Launch} {D : va_G} {cA : Nat → ClassId} {a : Nat → Nat} {ad : Nat → Nat → Nat} {σ : SS} {post : Int32 → SS → Prop} {x0 : Int32} (h : f_I_isDigit post σ x0) : mI l y_I_isDigit b_I_isDigit 1 (some .boolean) 0 0 D vcl (tyl cA) (wC cA a) (XC ad) σ [.int x0] (fun r σ => bz r ∧ post r σ) := met_I (by decide) (Nat.le_of_ble_eq_true rfl) (fun p e s m args below meth c A Q fx HR H ls hw hl => e_I_isDigit  fx HR h hw hl)
abbrev r_I_goesOn : Room := { frames := 1, cells := 0, slots := 0, locals := 20 }
def f_I_goesOn_12 (post : Int32 → SS → Prop) (σ : SS) (x0 : Int32) : Prop := br (x0 = 46) (post 1 σ) (f_I_isDigit (fun r_2 σ_1 => br (r_2 = 0) (post 0 σ_1) (post 1 σ_1)) σ x0)
def f_I_goesOn (post : Int32 → SS → Prop) (σ : SS) (x0 : Int32) : Prop := br (x0 < 65) (f_I_goesOn_12 post σ x0) (br (x0 ≤ 90) (post 1 σ) (f_I_goesOn_12 post σ x0))
section
variable {p : Program} {l : Launch} {e : Env} {s : State} {m : MethodId} {args : Array Value} {below : List Frame} {meth : Method} {c : Code} {Q : State → Prop} {D : va_G} {cA : Nat → ClassId} {a : Nat → Nat} {ad : Nat → Nat → Nat} {A : Nat → Prop}
set_option maxHeartbeats 4000000 in
set_option maxRecDepth 100000 in
theorem c_I_goesOn_12 (fx : CallFix p m c b_I_goesOn 1 s args GW RNI) {post : Int32 → SS → Prop} (HR : RetI p l e r_I_goesOn s m args below meth c Q D vcl (tyl cA) (wC cA a) (XC ad) A b_I_goesOn .boolean (fun r σ => bz r ∧ post r σ)) {σ : SS} {x0 : Int32} {H : Heap} {locs : List Loc} {ls : Array Slot} (h : f_I_goesOn_12 post σ x0) (hw : CX D vcl (tyl cA) (wC cA a σ) (XC ad) A s H locs) (hl : lv_has ls 1 [(0, .int x0)]) : W p l e r_I_goesOn s m args below meth c H locs 0 0 Q (F0 m 12 ls []) := by
  have hx := fx.1
  have hb := fx.2.1
  unfold f_I_goesOn_12 at h
  refine lv_iload_n (pc := 12) hx hb d_I_goesOn_12 rfl (lv_at hl 0 rfl) ?_
  refine lv_bipush (pc := 13) (v := 46) hx hb d_I_goesOn_13 (by decide) ?_
  refine lv_icmp_eq (pc := 15) (tgt := 25) hx hb d_I_goesOn_15 (by decide) (fun c9 => ?_) (fun c9 => ?_)
  · replace h := h.1 c9
    refine lv_iconst (pc := 25) (v := 1) hx hb d_I_goesOn_25 (by decide) ?_
    refine lv_goto (pc := 26) (tgt := 30) hx hb d_I_goesOn_26 (by decide) ?_
    exact HR (bz_n bz_1) d_I_goesOn_30 ⟨bz_1, h⟩ hw
  · replace h := h.2 c9
    refine lv_iload_n (pc := 18) hx hb d_I_goesOn_18 rfl (lv_at hl 0 rfl) ?_
    refine rsI (pc := 19) hw (rnS (pc := 19) xtC fx hw (c_I_isDigit h _) cw_I_64 rfl ⟨Nat.le_of_ble_eq_true rfl, Nat.le_of_ble_eq_true rfl⟩ hl.1 (Nat.le_of_ble_eq_true rfl) d_I_goesOn_19 ⟨Nat.zero_le _, Nat.zero_le _⟩) (fun r_2 σ_1 H locs hw h => ?_)
    have zr_2 := h.1
    replace h := h.2
    refine lv_if_eq (pc := 22) (tgt := 29) hx hb d_I_goesOn_22 (by decide) (fun c9 => ?_) (fun c9 => ?_)
    · replace h := h.1 c9
      refine lv_iconst (pc := 29) (v := 0) hx hb d_I_goesOn_29 (by decide) ?_
      exact HR (bz_n bz_0) d_I_goesOn_30 ⟨bz_0, h⟩ hw
    · replace h := h.2 c9
      refine lv_iconst (pc := 25) (v := 1) hx hb d_I_goesOn_25 (by decide) ?_
      refine lv_goto (pc := 26) (tgt := 30) hx hb d_I_goesOn_26 (by decide) ?_
      exact HR (bz_n bz_1) d_I_goesOn_30 ⟨bz_1, h⟩ hw
set_option maxHeartbeats 4000000 in
set_option maxRecDepth 100000 in
theorem e_I_goesOn (fx : CallFix p m c b_I_goesOn 1 s args GW RNI) {post : Int32 → SS → Prop} (HR : RetI p l e r_I_goesOn s m args below meth c Q D vcl (tyl cA) (wC cA a) (XC ad) A b_I_goesOn .boolean (fun r σ => bz r ∧ post r σ)) {σ : SS} {x0 : Int32} {H : Heap} {locs : List Loc} {ls : Array Slot} (h : f_I_goesOn post σ x0) (hw : CX D vcl (tyl cA) (wC cA a σ) (XC ad) A s H locs) (hl : lv_has ls 1 [(0, .int x0)]) : W p l e r_I_goesOn s m args below meth c H locs 0 0 Q (F0 m 0 ls []) := by
  have hx := fx.1
  have hb := fx.2.1
  unfold f_I_goesOn at h
  refine lv_iload_n (pc := 0) hx hb d_I_goesOn_0 rfl (lv_at hl 0 rfl) ?_
  refine lv_bipush (pc := 1) (v := 65) hx hb d_I_goesOn_1 (by decide) ?_
  refine lv_icmp_lt (pc := 3) (tgt := 12) hx hb d_I_goesOn_3 (by decide) (fun c9 => ?_) (fun c9 => ?_)
  · replace h := h.1 c9
    exact c_I_goesOn_12  fx HR h hw (lv_sub hl [0] rfl)
  · replace h := h.2 c9
    refine lv_iload_n (pc := 6) hx hb d_I_goesOn_6 rfl (lv_at hl 0 rfl) ?_
    refine lv_bipush (pc := 7) (v := 90) hx hb d_I_goesOn_7 (by decide) ?_
    refine lv_icmp_le (pc := 9) (tgt := 25) hx hb d_I_goesOn_9 (by decide) (fun c9 => ?_) (fun c9 => ?_)
    · replace h := h.1 c9
      refine lv_iconst (pc := 25) (v := 1) hx hb d_I_goesOn_25 (by decide) ?_
      refine lv_goto (pc := 26) (tgt := 30) hx hb d_I_goesOn_26 (by decide) ?_
      exact HR (bz_n bz_1) d_I_goesOn_30 ⟨bz_1, h⟩ hw
    · replace h := h.2 c9
      exact c_I_goesOn_12  fx HR h hw (lv_sub hl [0] rfl)
end
theorem c_I_goesOn {l : Launch} {D : va_G} {cA : Nat → ClassId} {a : Nat → Nat} {ad : Nat → Nat → Nat} {σ : SS} {post : Int32 → SS → Prop} {x0 : Int32} (h : f_I_goesOn post σ x0) : mI l y_I_goesOn b_I_goesOn 1 (some .boolean) 1 20 D vcl (tyl cA) (wC cA a) (XC ad) σ [.int x0] (fun r σ => bz r ∧ post r σ) := met_I (by decide) (Nat.le_of_ble_eq_true rfl) (fun p e s m args below meth c A Q fx HR H ls hw hl => e_I_goesOn  fx HR h hw hl)
abbrev r_JStr_isLatin10 : Room := { frames := 0, cells := 0, slots := 0, locals := 0 }
def f_JStr_isLatin10 (post : Int32 → SS → Prop) (σ : SS) (j0 : Nat) : Prop := (j0 < 50) ∧ post 1 σ
section
variable {p : Program} {l : Launch} {e : Env} {s : State} {m : MethodId} {args : Array Value} {below : List Frame} {meth : Method} {c : Code} {Q : State → Prop} {D : va_G} {cA : Nat → ClassId} {a : Nat → Nat} {ad : Nat → Nat → Nat} {A : Nat → Prop}
set_option maxHeartbeats 4000000 in
set_option maxRecDepth 100000 in
theorem e_JStr_isLatin10 (fx : CallFix p m c b_JStr_isLatin10 1 s args GW "java/lang/String") {post : Int32 → SS → Prop} (HR : RetI p l e r_JStr_isLatin10 s m args below meth c Q D vcl (tyl cA) (wC cA a) (XC ad) A b_JStr_isLatin10 .boolean (fun r σ => bz r ∧ post r σ)) {σ : SS} {j0 : Nat} {H : Heap} {locs : List Loc} {ls : Array Slot} (h : f_JStr_isLatin10 post σ j0) (hw : CX D vcl (tyl cA) (wC cA a σ) (XC ad) A s H locs) (hl : lv_has ls 1 [(0, .ref (ad 2 j0))]) : W p l e r_JStr_isLatin10 s m args below meth c H locs 0 0 Q (F0 m 0 ls []) := by
  have hx := fx.1
  have hb := fx.2.1
  unfold f_JStr_isLatin10 at h
  refine gzK (pc := 0) fx hw kw_410 d_JStr_isLatin10_0 ?_
  refine lv_if_eq (pc := 3) (tgt := 17) hx hb d_JStr_isLatin10_3 (by decide) (fun c9 => absurd c9 (by decide)) (fun _ => ?_)
  refine lv_aload_n (pc := 6) hx hb d_JStr_isLatin10_6 rfl (lv_at hl 0 rfl) ?_
  have b_1 := h.1
  replace h := h.2
  refine gK_coder (pc := 7) fx hw b_1 kw_1550 d_JStr_isLatin10_7 ?_
  refine lv_if_ne (pc := 10) (tgt := 17) hx hb d_JStr_isLatin10_10 (by decide) (fun c9 => absurd c9 (by decide)) (fun _ => ?_)
  refine lv_iconst (pc := 13) (v := 1) hx hb d_JStr_isLatin10_13 (by decide) ?_
  refine lv_goto (pc := 14) (tgt := 18) hx hb d_JStr_isLatin10_14 (by decide) ?_
  exact HR (bz_n bz_1) d_JStr_isLatin10_18 ⟨bz_1, h⟩ hw
end
theorem c_JStr_isLatin10 {l : Launch} {D : va_G} {cA : Nat → ClassId} {a : Nat → Nat} {ad : Nat → Nat → Nat} {σ : SS} {post : Int32 → SS → Prop} {j0 : Nat} (h : f_JStr_isLatin10 post σ j0) : mI l y_JStr_isLatin10 b_JStr_isLatin10 1 (some .boolean) 0 0 D vcl (tyl cA) (wC cA a) (XC ad) σ [.ref (ad 2 j0)] (fun r σ => bz r ∧ post r σ) := met_I (by decide) (Nat.le_of_ble_eq_true rfl) (fun p e s m args below meth c A Q fx HR H ls hw hl => e_JStr_isLatin10  fx HR h hw hl)
abbrev r_JStr_coder0 : Room := { frames := 0, cells := 0, slots := 0, locals := 0 }
def f_JStr_coder0 (post : Int32 → SS → Prop) (σ : SS) (j0 : Nat) : Prop := (j0 < 50) ∧ post 0 σ
section
variable {p : Program} {l : Launch} {e : Env} {s : State} {m : MethodId} {args : Array Value} {below : List Frame} {meth : Method} {c : Code} {Q : State → Prop} {D : va_G} {cA : Nat → ClassId} {a : Nat → Nat} {ad : Nat → Nat → Nat} {A : Nat → Prop}
set_option maxHeartbeats 4000000 in
set_option maxRecDepth 100000 in
theorem e_JStr_coder0 (fx : CallFix p m c b_JStr_coder0 1 s args GW "java/lang/String") {post : Int32 → SS → Prop} (HR : RetI p l e r_JStr_coder0 s m args below meth c Q D vcl (tyl cA) (wC cA a) (XC ad) A b_JStr_coder0 .byte post) {σ : SS} {j0 : Nat} {H : Heap} {locs : List Loc} {ls : Array Slot} (h : f_JStr_coder0 post σ j0) (hw : CX D vcl (tyl cA) (wC cA a σ) (XC ad) A s H locs) (hl : lv_has ls 1 [(0, .ref (ad 2 j0))]) : W p l e r_JStr_coder0 s m args below meth c H locs 0 0 Q (F0 m 0 ls []) := by
  have hx := fx.1
  have hb := fx.2.1
  unfold f_JStr_coder0 at h
  refine gzK (pc := 0) fx hw kw_410 d_JStr_coder0_0 ?_
  refine lv_if_eq (pc := 3) (tgt := 13) hx hb d_JStr_coder0_3 (by decide) (fun c9 => absurd c9 (by decide)) (fun _ => ?_)
  refine lv_aload_n (pc := 6) hx hb d_JStr_coder0_6 rfl (lv_at hl 0 rfl) ?_
  have b_1 := h.1
  replace h := h.2
  refine gK_coder (pc := 7) fx hw b_1 kw_1550 d_JStr_coder0_7 ?_
  refine lv_goto (pc := 10) (tgt := 14) hx hb d_JStr_coder0_10 (by decide) ?_
  exact HR (by decide) d_JStr_coder0_14 h hw
end
theorem c_JStr_coder0 {l : Launch} {D : va_G} {cA : Nat → ClassId} {a : Nat → Nat} {ad : Nat → Nat → Nat} {σ : SS} {post : Int32 → SS → Prop} {j0 : Nat} (h : f_JStr_coder0 post σ j0) : mI l y_JStr_coder0 b_JStr_coder0 1 (some .byte) 0 0 D vcl (tyl cA) (wC cA a) (XC ad) σ [.ref (ad 2 j0)] post := met_I (by decide) (Nat.le_of_ble_eq_true rfl) (fun p e s m args below meth c A Q fx HR H ls hw hl => e_JStr_coder0  fx HR h hw hl)
abbrev r_JStr_length0 : Room := { frames := 1, cells := 0, slots := 0, locals := 20 }
def f_JStr_length0 (post : Int32 → SS → Prop) (σ : SS) (j0 : Nat) : Prop := (j0 < 50) ∧ f_JStr_coder0 (fun r_3 σ_2 => post ((Int32.ofNat (kS_len j0)) >>> (r_3 &&& 31)) σ_2) σ j0
section
variable {p : Program} {l : Launch} {e : Env} {s : State} {m : MethodId} {args : Array Value} {below : List Frame} {meth : Method} {c : Code} {Q : State → Prop} {D : va_G} {cA : Nat → ClassId} {a : Nat → Nat} {ad : Nat → Nat → Nat} {A : Nat → Prop}
set_option maxHeartbeats 4000000 in
set_option maxRecDepth 100000 in
theorem e_JStr_length0 (fx : CallFix p m c b_JStr_length0 1 s args GW "java/lang/String") {post : Int32 → SS → Prop} (HR : RetI p l e r_JStr_length0 s m args below meth c Q D vcl (tyl cA) (wC cA a) (XC ad) A b_JStr_length0 .int post) {σ : SS} {j0 : Nat} {H : Heap} {locs : List Loc} {ls : Array Slot} (h : f_JStr_length0 post σ j0) (hw : CX D vcl (tyl cA) (wC cA a σ) (XC ad) A s H locs) (hl : lv_has ls 1 [(0, .ref (ad 2 j0))]) : W p l e r_JStr_length0 s m args below meth c H locs 0 0 Q (F0 m 0 ls []) := by
  have hx := fx.1
  have hb := fx.2.1
  unfold f_JStr_length0 at h
  refine lv_aload_n (pc := 0) hx hb d_JStr_length0_0 rfl (lv_at hl 0 rfl) ?_
  have b_1 := h.1
  replace h := h.2
  refine gK_value (pc := 1) fx hw b_1 kw_1551 d_JStr_length0_1 ?_
  refine anK (pc := 4) fx hw b_1 d_JStr_length0_4 ?_
  refine lv_aload_n (pc := 5) hx hb d_JStr_length0_5 rfl (lv_at hl 0 rfl) ?_
  refine rsI (pc := 6) hw (rnV (pc := 6) xtC fx hw (c_JStr_coder0 h _) cw_JStr_335 (rcK hw b_1) rfl ⟨Nat.le_of_ble_eq_true rfl, Nat.le_of_ble_eq_true rfl⟩ hl.1 (Nat.le_of_ble_eq_true rfl) d_JStr_length0_6 ⟨Nat.zero_le _, Nat.zero_le _⟩) (fun r_3 σ_2 H locs hw h => ?_)
  refine lv_ishr (pc := 9) hx hb d_JStr_length0_9 ?_
  exact HR rfl d_JStr_length0_10 h hw
end
theorem c_JStr_length0 {l : Launch} {D : va_G} {cA : Nat → ClassId} {a : Nat → Nat} {ad : Nat → Nat → Nat} {σ : SS} {post : Int32 → SS → Prop} {j0 : Nat} (h : f_JStr_length0 post σ j0) : mI l y_JStr_length0 b_JStr_length0 1 (some .int) 1 20 D vcl (tyl cA) (wC cA a) (XC ad) σ [.ref (ad 2 j0)] post := met_I (by decide) (Nat.le_of_ble_eq_true rfl) (fun p e s m args below meth c A Q fx HR H ls hw hl => e_JStr_length0  fx HR h hw hl)
abbrev r_JLat_canEncode1 : Room := { frames := 0, cells := 0, slots := 0, locals := 0 }
def f_JLat_canEncode1 (post : Int32 → SS → Prop) (σ : SS) (x0 : Int32) : Prop := br (x0 < 0) (post 0 σ) (br (255 < x0) (post 0 σ) (post 1 σ))
section
variable {p : Program} {l : Launch} {e : Env} {s : State} {m : MethodId} {args : Array Value} {below : List Frame} {meth : Method} {c : Code} {Q : State → Prop} {D : va_G} {cA : Nat → ClassId} {a : Nat → Nat} {ad : Nat → Nat → Nat} {A : Nat → Prop}
set_option maxHeartbeats 4000000 in
set_option maxRecDepth 100000 in
theorem e_JLat_canEncode1 (fx : CallFix p m c b_JLat_canEncode1 1 s args GW "java/lang/StringLatin1") {post : Int32 → SS → Prop} (HR : RetI p l e r_JLat_canEncode1 s m args below meth c Q D vcl (tyl cA) (wC cA a) (XC ad) A b_JLat_canEncode1 .boolean (fun r σ => bz r ∧ post r σ)) {σ : SS} {x0 : Int32} {H : Heap} {locs : List Loc} {ls : Array Slot} (h : f_JLat_canEncode1 post σ x0) (hw : CX D vcl (tyl cA) (wC cA a σ) (XC ad) A s H locs) (hl : lv_has ls 1 [(0, .int x0)]) : W p l e r_JLat_canEncode1 s m args below meth c H locs 0 0 Q (F0 m 0 ls []) := by
  have hx := fx.1
  have hb := fx.2.1
  unfold f_JLat_canEncode1 at h
  refine lv_iload_n (pc := 0) hx hb d_JLat_canEncode1_0 rfl (lv_at hl 0 rfl) ?_
  refine lv_if_lt (pc := 1) (tgt := 15) hx hb d_JLat_canEncode1_1 (by decide) (fun c9 => ?_) (fun c9 => ?_)
  · replace h := h.1 c9
    refine lv_iconst (pc := 15) (v := 0) hx hb d_JLat_canEncode1_15 (by decide) ?_
    exact HR (bz_n bz_0) d_JLat_canEncode1_16 ⟨bz_0, h⟩ hw
  · replace h := h.2 c9
    refine lv_iload_n (pc := 4) hx hb d_JLat_canEncode1_4 rfl (lv_at hl 0 rfl) ?_
    refine lv_sipush (pc := 5) (v := 255) hx hb d_JLat_canEncode1_5 (by decide) ?_
    refine lv_icmp_gt (pc := 8) (tgt := 15) hx hb d_JLat_canEncode1_8 (by decide) (fun c9 => ?_) (fun c9 => ?_)
    · replace h := h.1 c9
      refine lv_iconst (pc := 15) (v := 0) hx hb d_JLat_canEncode1_15 (by decide) ?_
      exact HR (bz_n bz_0) d_JLat_canEncode1_16 ⟨bz_0, h⟩ hw
    · replace h := h.2 c9
      refine lv_iconst (pc := 11) (v := 1) hx hb d_JLat_canEncode1_11 (by decide) ?_
      refine lv_goto (pc := 12) (tgt := 16) hx hb d_JLat_canEncode1_12 (by decide) ?_
      exact HR (bz_n bz_1) d_JLat_canEncode1_16 ⟨bz_1, h⟩ hw
end
theorem c_JLat_canEncode1 {l : Launch} {D : va_G} {cA : Nat → ClassId} {a : Nat → Nat} {ad : Nat → Nat → Nat} {σ : SS} {post : Int32 → SS → Prop} {x0 : Int32} (h : f_JLat_canEncode1 post σ x0) : mI l y_JLat_canEncode1 b_JLat_canEncode1 1 (some .boolean) 0 0 D vcl (tyl cA) (wC cA a) (XC ad) σ [.int x0] (fun r σ => bz r ∧ post r σ) := met_I (by decide) (Nat.le_of_ble_eq_true rfl) (fun p e s m args below meth c A Q fx HR H ls hw hl => e_JLat_canEncode1  fx HR h hw hl)
abbrev r_JLat_indexOfChar4 : Room := { frames := 0, cells := 0, slots := 0, locals := 0 }
def f_JLat_indexOfChar4_7 (post : Int32 → SS → Prop) : Nat → SS → Nat → Int32 → Int32 → Int32 → Prop
  | 0, _, _, _, _, _ => False
  | n + 1, σ, x0, x3, x4, x5 => br (x3 ≤ x5) (post (-1) σ) ((x0 < 50) ∧ vp_in x5 (kS_len x0) ∧ br ((kS_byt x0 x5.toNatClampNeg) = x4) (post x5 σ) (nm (x5 + 1) fun x5_2 => f_JLat_indexOfChar4_7 post n σ x0 x3 x4 x5_2))
def f_JLat_indexOfChar4 (post : Int32 → SS → Prop) (σ : SS) (j0 : Nat) (x1 : Int32) (x2 : Int32) (x3 : Int32) : Prop := nm (x1.toInt8.toInt32) fun x4_3 => ∃ n9, f_JLat_indexOfChar4_7 post n9 σ j0 x3 x4_3 x2
section
variable {p : Program} {l : Launch} {e : Env} {s : State} {m : MethodId} {args : Array Value} {below : List Frame} {meth : Method} {c : Code} {Q : State → Prop} {D : va_G} {cA : Nat → ClassId} {a : Nat → Nat} {ad : Nat → Nat → Nat} {A : Nat → Prop}
set_option maxHeartbeats 4000000 in
set_option maxRecDepth 100000 in
theorem c_JLat_indexOfChar4_7 (fx : CallFix p m c b_JLat_indexOfChar4 6 s args GW "java/lang/StringLatin1") {post : Int32 → SS → Prop} (HR : RetI p l e r_JLat_indexOfChar4 s m args below meth c Q D vcl (tyl cA) (wC cA a) (XC ad) A b_JLat_indexOfChar4 .int post) : ∀ (n : Nat) {σ : SS} {x0 : Nat} {x3 : Int32} {x4 : Int32} {x5 : Int32} {H : Heap} {locs : List Loc} {ls : Array Slot}, f_JLat_indexOfChar4_7 post n σ x0 x3 x4 x5 → CX D vcl (tyl cA) (wC cA a σ) (XC ad) A s H locs → lv_has ls 6 [(0, .ref (ad 3 x0)), (3, .int x3), (4, .int x4), (5, .int x5)] → W p l e r_JLat_indexOfChar4 s m args below meth c H locs 0 0 Q (F0 m 7 ls []) := by
  have hx := fx.1
  have hb := fx.2.1
  intro n
  induction n with
  | zero => intro σ x0 x3 x4 x5 H locs ls h; exact h.elim
  | succ n ih =>
    intro σ x0 x3 x4 x5 H locs ls h hw hl
    have K7 := @ih
    unfold f_JLat_indexOfChar4_7 at h
    refine lv_iload (pc := 7) hx hb d_JLat_indexOfChar4_7 (lv_at hl 3 rfl) ?_
    refine lv_iload_n (pc := 9) hx hb d_JLat_indexOfChar4_9 rfl (lv_at hl 1 rfl) ?_
    refine lv_icmp_ge (pc := 10) (tgt := 31) hx hb d_JLat_indexOfChar4_10 (by decide) (fun c9 => ?_) (fun c9 => ?_)
    · replace h := h.1 c9
      refine lv_iconst (pc := 31) (v := (-1)) hx hb d_JLat_indexOfChar4_31 (by decide) ?_
      exact HR rfl d_JLat_indexOfChar4_32 h hw
    · replace h := h.2 c9
      refine lv_aload_n (pc := 13) hx hb d_JLat_indexOfChar4_13 rfl (lv_at hl 0 rfl) ?_
      refine lv_iload (pc := 14) hx hb d_JLat_indexOfChar4_14 (lv_at hl 3 rfl) ?_
      have b_1 := h.1
      replace h := h.2
      refine alK (pc := 16) fx hw b_1 h.1 d_JLat_indexOfChar4_16 ?_
      replace h := h.2
      refine lv_iload (pc := 17) hx hb d_JLat_indexOfChar4_17 (lv_at hl 2 rfl) ?_
      refine lv_icmp_ne (pc := 19) (tgt := 25) hx hb d_JLat_indexOfChar4_19 (by decide) (fun c9 => ?_) (fun c9 => ?_)
      · replace h := h.2 c9
        obtain ⟨x5_2, e9⟩ : ∃ z : Int32, z = x5 + 1 := ⟨_, rfl⟩
        replace h := nm_u h e9
        refine lv_iinc (pc := 25) (v := x5_2) (lv' := [(5, .int x5_2), (0, .ref (ad 3 x0)), (3, .int x3), (4, .int x4)]) hx hb d_JLat_indexOfChar4_25 hl (k := 3) rfl (by rw [e9]; rfl) (by decide) rfl (fun ls hl => ?_)
        clear e9
        refine lv_goto (pc := 28) (tgt := 7) hx hb d_JLat_indexOfChar4_28 (by decide) ?_
        exact K7 h hw (lv_sub hl [1, 2, 3, 0] rfl)
      · replace h := h.1 c9
        refine lv_iload (pc := 22) hx hb d_JLat_indexOfChar4_22 (lv_at hl 3 rfl) ?_
        exact HR rfl d_JLat_indexOfChar4_24 h hw
set_option maxHeartbeats 4000000 in
set_option maxRecDepth 100000 in
theorem e_JLat_indexOfChar4 (fx : CallFix p m c b_JLat_indexOfChar4 6 s args GW "java/lang/StringLatin1") {post : Int32 → SS → Prop} (HR : RetI p l e r_JLat_indexOfChar4 s m args below meth c Q D vcl (tyl cA) (wC cA a) (XC ad) A b_JLat_indexOfChar4 .int post) {σ : SS} {j0 : Nat} {x1 : Int32} {x2 : Int32} {x3 : Int32} {H : Heap} {locs : List Loc} {ls : Array Slot} (h : f_JLat_indexOfChar4 post σ j0 x1 x2 x3) (hw : CX D vcl (tyl cA) (wC cA a σ) (XC ad) A s H locs) (hl : lv_has ls 6 [(0, .ref (ad 3 j0)), (1, .int x1), (2, .int x2), (3, .int x3)]) : W p l e r_JLat_indexOfChar4 s m args below meth c H locs 0 0 Q (F0 m 0 ls []) := by
  have hx := fx.1
  have hb := fx.2.1
  unfold f_JLat_indexOfChar4 at h
  refine lv_iload_n (pc := 0) hx hb d_JLat_indexOfChar4_0 rfl (lv_at hl 1 rfl) ?_
  refine lv_i2b (pc := 1) hx hb d_JLat_indexOfChar4_1 rfl ?_
  refine lv_topi (fun x4_3 e9 => ?_)
  replace h := nm_u h e9
  clear e9
  refine lv_istore (pc := 2) (lv' := [(4, .int x4_3), (0, .ref (ad 3 j0)), (1, .int x1), (2, .int x2), (3, .int x3)]) hx hb d_JLat_indexOfChar4_2 hl (by decide) rfl (fun ls hl => ?_)
  refine lv_iload_n (pc := 4) hx hb d_JLat_indexOfChar4_4 rfl (lv_at hl 3 rfl) ?_
  refine lv_istore (pc := 5) (lv' := [(5, .int x2), (4, .int x4_3), (0, .ref (ad 3 j0)), (1, .int x1), (2, .int x2), (3, .int x3)]) hx hb d_JLat_indexOfChar4_5 hl (by decide) rfl (fun ls hl => ?_)
  obtain ⟨n9, h⟩ := h
  exact c_JLat_indexOfChar4_7  fx HR n9 h hw (lv_sub hl [2, 5, 1, 0] rfl)
end
theorem c_JLat_indexOfChar4 {l : Launch} {D : va_G} {cA : Nat → ClassId} {a : Nat → Nat} {ad : Nat → Nat → Nat} {σ : SS} {post : Int32 → SS → Prop} {j0 : Nat} {x1 : Int32} {x2 : Int32} {x3 : Int32} (h : f_JLat_indexOfChar4 post σ j0 x1 x2 x3) : mI l y_JLat_indexOfChar4 b_JLat_indexOfChar4 6 (some .int) 0 0 D vcl (tyl cA) (wC cA a) (XC ad) σ [.ref (ad 3 j0), .int x1, .int x2, .int x3] post := met_I (by decide) (Nat.le_of_ble_eq_true rfl) (fun p e s m args below meth c A Q fx HR H ls hw hl => e_JLat_indexOfChar4  fx HR h hw hl)
abbrev r_JLat_indexOf4 : Room := { frames := 1, cells := 0, slots := 0, locals := 25 }
def f_JLat_indexOf4 (post : Int32 → SS → Prop) (σ : SS) (j0 : Nat) (x1 : Int32) (x2 : Int32) (x3 : Int32) : Prop := f_JLat_canEncode1 (fun r_2 σ_1 => br (r_2 = 0) (post (-1) σ_1) (nm (if x2 < 0 then 0 else x2) fun x2_3 => (j0 < 50) ∧ nm (if (Int32.ofNat (kS_len j0)) < x3 then (Int32.ofNat (kS_len j0)) else x3) fun x3_5 => br (x2_3 < x3_5) (f_JLat_indexOfChar4 (fun r_7 σ_6 => post r_7 σ_6) σ_1 j0 x1 x2_3 x3_5) (post (-1) σ_1))) σ x1
section
variable {p : Program} {l : Launch} {e : Env} {s : State} {m : MethodId} {args : Array Value} {below : List Frame} {meth : Method} {c : Code} {Q : State → Prop} {D : va_G} {cA : Nat → ClassId} {a : Nat → Nat} {ad : Nat → Nat → Nat} {A : Nat → Prop}
set_option maxHeartbeats 4000000 in
set_option maxRecDepth 100000 in
theorem e_JLat_indexOf4 (fx : CallFix p m c b_JLat_indexOf4 4 s args GW "java/lang/StringLatin1") {post : Int32 → SS → Prop} (HR : RetI p l e r_JLat_indexOf4 s m args below meth c Q D vcl (tyl cA) (wC cA a) (XC ad) A b_JLat_indexOf4 .int post) {σ : SS} {j0 : Nat} {x1 : Int32} {x2 : Int32} {x3 : Int32} {H : Heap} {locs : List Loc} {ls : Array Slot} (h : f_JLat_indexOf4 post σ j0 x1 x2 x3) (hw : CX D vcl (tyl cA) (wC cA a σ) (XC ad) A s H locs) (hl : lv_has ls 4 [(0, .ref (ad 3 j0)), (1, .int x1), (2, .int x2), (3, .int x3)]) : W p l e r_JLat_indexOf4 s m args below meth c H locs 0 0 Q (F0 m 0 ls []) := by
  have hx := fx.1
  have hb := fx.2.1
  unfold f_JLat_indexOf4 at h
  refine lv_iload_n (pc := 0) hx hb d_JLat_indexOf4_0 rfl (lv_at hl 1 rfl) ?_
  refine rsI (pc := 1) hw (rnS (pc := 1) xtC fx hw (c_JLat_canEncode1 h _) cw_JLat_88 rfl ⟨Nat.le_of_ble_eq_true rfl, Nat.le_of_ble_eq_true rfl⟩ hl.1 (Nat.le_of_ble_eq_true rfl) d_JLat_indexOf4_1 ⟨Nat.zero_le _, Nat.zero_le _⟩) (fun r_2 σ_1 H locs hw h => ?_)
  have zr_2 := h.1
  replace h := h.2
  refine lv_if_ne (pc := 4) (tgt := 9) hx hb d_JLat_indexOf4_4 (by decide) (fun c9 => ?_) (fun c9 => ?_)
  · replace h := h.2 c9
    refine lv_iload_n (pc := 9) hx hb d_JLat_indexOf4_9 rfl (lv_at hl 2 rfl) ?_
    refine lv_iconst (pc := 10) (v := 0) hx hb d_JLat_indexOf4_10 (by decide) ?_
    refine va_mmax (pc := 11) hx hb (fx.2.2.1.trans hl.1.symm) fx.2.2.2.1 (fx.2.2.2.2 _ kw_426) (fx.2.2.2.2 _ kw_427) (fx.2.2.2.2 _ kw_17) (fx.2.2.2.2 _ kw_428) (Nat.le_of_ble_eq_true rfl) (Nat.le_of_ble_eq_true rfl) (Nat.zero_le _) (Nat.zero_le _) d_JLat_indexOf4_11 ?_
    refine lv_topi (fun x2_3 e9 => ?_)
    replace h := nm_u h e9
    clear e9
    refine lv_istore_n (pc := 14) (lv' := [(2, .int x2_3), (0, .ref (ad 3 j0)), (1, .int x1), (3, .int x3)]) hx hb d_JLat_indexOf4_14 rfl hl (by decide) rfl (fun ls hl => ?_)
    refine lv_iload_n (pc := 15) hx hb d_JLat_indexOf4_15 rfl (lv_at hl 3 rfl) ?_
    refine lv_aload_n (pc := 16) hx hb d_JLat_indexOf4_16 rfl (lv_at hl 1 rfl) ?_
    have b_4 := h.1
    replace h := h.2
    refine anK (pc := 17) fx hw b_4 d_JLat_indexOf4_17 ?_
    refine va_mmin (pc := 18) hx hb (fx.2.2.1.trans hl.1.symm) fx.2.2.2.1 (fx.2.2.2.2 _ kw_429) (fx.2.2.2.2 _ kw_430) (fx.2.2.2.2 _ kw_17) (fx.2.2.2.2 _ kw_431) (Nat.le_of_ble_eq_true rfl) (Nat.le_of_ble_eq_true rfl) (Nat.zero_le _) (Nat.zero_le _) d_JLat_indexOf4_18 ?_
    refine lv_topi (fun x3_5 e9 => ?_)
    replace h := nm_u h e9
    clear e9
    refine lv_istore_n (pc := 21) (lv' := [(3, .int x3_5), (2, .int x2_3), (0, .ref (ad 3 j0)), (1, .int x1)]) hx hb d_JLat_indexOf4_21 rfl hl (by decide) rfl (fun ls hl => ?_)
    refine lv_iload_n (pc := 22) hx hb d_JLat_indexOf4_22 rfl (lv_at hl 1 rfl) ?_
    refine lv_iload_n (pc := 23) hx hb d_JLat_indexOf4_23 rfl (lv_at hl 0 rfl) ?_
    refine lv_icmp_lt (pc := 24) (tgt := 29) hx hb d_JLat_indexOf4_24 (by decide) (fun c9 => ?_) (fun c9 => ?_)
    · replace h := h.1 c9
      refine lv_aload_n (pc := 29) hx hb d_JLat_indexOf4_29 rfl (lv_at hl 2 rfl) ?_
      refine lv_iload_n (pc := 30) hx hb d_JLat_indexOf4_30 rfl (lv_at hl 3 rfl) ?_
      refine lv_iload_n (pc := 31) hx hb d_JLat_indexOf4_31 rfl (lv_at hl 1 rfl) ?_
      refine lv_iload_n (pc := 32) hx hb d_JLat_indexOf4_32 rfl (lv_at hl 0 rfl) ?_
      refine rsI (pc := 33) hw (rnS (pc := 33) xtC fx hw (c_JLat_indexOfChar4 h _) cw_JLat_95 rfl ⟨Nat.le_of_ble_eq_true rfl, Nat.le_of_ble_eq_true rfl⟩ hl.1 (Nat.le_of_ble_eq_true rfl) d_JLat_indexOf4_33 ⟨Nat.zero_le _, Nat.zero_le _⟩) (fun r_7 σ_6 H locs hw h => ?_)
      exact HR rfl d_JLat_indexOf4_36 h hw
    · replace h := h.2 c9
      refine lv_iconst (pc := 27) (v := (-1)) hx hb d_JLat_indexOf4_27 (by decide) ?_
      exact HR rfl d_JLat_indexOf4_28 h hw
  · replace h := h.1 c9
    refine lv_iconst (pc := 7) (v := (-1)) hx hb d_JLat_indexOf4_7 (by decide) ?_
    exact HR rfl d_JLat_indexOf4_8 h hw
end
theorem c_JLat_indexOf4 {l : Launch} {D : va_G} {cA : Nat → ClassId} {a : Nat → Nat} {ad : Nat → Nat → Nat} {σ : SS} {post : Int32 → SS → Prop} {j0 : Nat} {x1 : Int32} {x2 : Int32} {x3 : Int32} (h : f_JLat_indexOf4 post σ j0 x1 x2 x3) : mI l y_JLat_indexOf4 b_JLat_indexOf4 4 (some .int) 1 25 D vcl (tyl cA) (wC cA a) (XC ad) σ [.ref (ad 3 j0), .int x1, .int x2, .int x3] post := met_I (by decide) (Nat.le_of_ble_eq_true rfl) (fun p e s m args below meth c A Q fx HR H ls hw hl => e_JLat_indexOf4  fx HR h hw hl)
abbrev r_JStr_indexOf2 : Room := { frames := 2, cells := 0, slots := 0, locals := 48 }
def f_JStr_indexOf2 (post : Int32 → SS → Prop) (σ : SS) (j0 : Nat) (x1 : Int32) (x2 : Int32) : Prop := (j0 < 50) ∧ f_JStr_isLatin10 (fun r_3 σ_2 => br (r_3 = 0) (f_JStr_length0 (fun r_5 σ_4 => False) σ_2 j0) (f_JStr_length0 (fun r_7 σ_6 => f_JLat_indexOf4 (fun r_9 σ_8 => post r_9 σ_8) σ_6 j0 x1 x2 r_7) σ_2 j0)) σ j0
section
variable {p : Program} {l : Launch} {e : Env} {s : State} {m : MethodId} {args : Array Value} {below : List Frame} {meth : Method} {c : Code} {Q : State → Prop} {D : va_G} {cA : Nat → ClassId} {a : Nat → Nat} {ad : Nat → Nat → Nat} {A : Nat → Prop}
set_option maxHeartbeats 4000000 in
set_option maxRecDepth 100000 in
theorem e_JStr_indexOf2 (fx : CallFix p m c b_JStr_indexOf2 3 s args GW "java/lang/String") {post : Int32 → SS → Prop} (HR : RetI p l e r_JStr_indexOf2 s m args below meth c Q D vcl (tyl cA) (wC cA a) (XC ad) A b_JStr_indexOf2 .int post) {σ : SS} {j0 : Nat} {x1 : Int32} {x2 : Int32} {H : Heap} {locs : List Loc} {ls : Array Slot} (h : f_JStr_indexOf2 post σ j0 x1 x2) (hw : CX D vcl (tyl cA) (wC cA a σ) (XC ad) A s H locs) (hl : lv_has ls 3 [(0, .ref (ad 2 j0)), (1, .int x1), (2, .int x2)]) : W p l e r_JStr_indexOf2 s m args below meth c H locs 0 0 Q (F0 m 0 ls []) := by
  have hx := fx.1
  have hb := fx.2.1
  unfold f_JStr_indexOf2 at h
  refine lv_aload_n (pc := 0) hx hb d_JStr_indexOf2_0 rfl (lv_at hl 0 rfl) ?_
  have b_1 := h.1
  replace h := h.2
  refine rsI (pc := 1) hw (rnV (pc := 1) xtC fx hw (c_JStr_isLatin10 h _) cw_JStr_492 (rcK hw b_1) rfl ⟨Nat.le_of_ble_eq_true rfl, Nat.le_of_ble_eq_true rfl⟩ hl.1 (Nat.le_of_ble_eq_true rfl) d_JStr_indexOf2_1 ⟨Nat.zero_le _, Nat.zero_le _⟩) (fun r_3 σ_2 H locs hw h => ?_)
  have zr_3 := h.1
  replace h := h.2
  refine lv_if_eq (pc := 4) (tgt := 23) hx hb d_JStr_indexOf2_4 (by decide) (fun c9 => ?_) (fun c9 => ?_)
  · replace h := h.1 c9
    refine lv_aload_n (pc := 23) hx hb d_JStr_indexOf2_23 rfl (lv_at hl 0 rfl) ?_
    refine gK_value (pc := 24) fx hw b_1 kw_1551 d_JStr_indexOf2_24 ?_
    refine lv_iload_n (pc := 27) hx hb d_JStr_indexOf2_27 rfl (lv_at hl 1 rfl) ?_
    refine lv_iload_n (pc := 28) hx hb d_JStr_indexOf2_28 rfl (lv_at hl 2 rfl) ?_
    refine lv_aload_n (pc := 29) hx hb d_JStr_indexOf2_29 rfl (lv_at hl 0 rfl) ?_
    refine rsI (pc := 30) hw (rnV (pc := 30) xtC fx hw (c_JStr_length0 h _) cw_JStr_505 (rcK hw b_1) rfl ⟨Nat.le_of_ble_eq_true rfl, Nat.le_of_ble_eq_true rfl⟩ hl.1 (Nat.le_of_ble_eq_true rfl) d_JStr_indexOf2_30 ⟨Nat.zero_le _, Nat.zero_le _⟩) (fun r_5 σ_4 H locs hw h => ?_)
    exact h.elim
  · replace h := h.2 c9
    refine lv_aload_n (pc := 7) hx hb d_JStr_indexOf2_7 rfl (lv_at hl 0 rfl) ?_
    refine gK_value (pc := 8) fx hw b_1 kw_1551 d_JStr_indexOf2_8 ?_
    refine lv_iload_n (pc := 11) hx hb d_JStr_indexOf2_11 rfl (lv_at hl 1 rfl) ?_
    refine lv_iload_n (pc := 12) hx hb d_JStr_indexOf2_12 rfl (lv_at hl 2 rfl) ?_
    refine lv_aload_n (pc := 13) hx hb d_JStr_indexOf2_13 rfl (lv_at hl 0 rfl) ?_
    refine rsI (pc := 14) hw (rnV (pc := 14) xtC fx hw (c_JStr_length0 h _) cw_JStr_505 (rcK hw b_1) rfl ⟨Nat.le_of_ble_eq_true rfl, Nat.le_of_ble_eq_true rfl⟩ hl.1 (Nat.le_of_ble_eq_true rfl) d_JStr_indexOf2_14 ⟨Nat.zero_le _, Nat.zero_le _⟩) (fun r_7 σ_6 H locs hw h => ?_)
    refine rsI (pc := 17) hw (rnS (pc := 17) xtC fx hw (c_JLat_indexOf4 h _) cw_JStr_637 rfl ⟨Nat.le_of_ble_eq_true rfl, Nat.le_of_ble_eq_true rfl⟩ hl.1 (Nat.le_of_ble_eq_true rfl) d_JStr_indexOf2_17 ⟨Nat.zero_le _, Nat.zero_le _⟩) (fun r_9 σ_8 H locs hw h => ?_)
    refine lv_goto (pc := 20) (tgt := 36) hx hb d_JStr_indexOf2_20 (by decide) ?_
    exact HR rfl d_JStr_indexOf2_36 h hw
end
theorem c_JStr_indexOf2 {l : Launch} {D : va_G} {cA : Nat → ClassId} {a : Nat → Nat} {ad : Nat → Nat → Nat} {σ : SS} {post : Int32 → SS → Prop} {j0 : Nat} {x1 : Int32} {x2 : Int32} (h : f_JStr_indexOf2 post σ j0 x1 x2) : mI l y_JStr_indexOf2 b_JStr_indexOf2 3 (some .int) 2 48 D vcl (tyl cA) (wC cA a) (XC ad) σ [.ref (ad 2 j0), .int x1, .int x2] post := met_I (by decide) (Nat.le_of_ble_eq_true rfl) (fun p e s m args below meth c A Q fx HR H ls hw hl => e_JStr_indexOf2  fx HR h hw hl)
abbrev r_JStr_indexOf1 : Room := { frames := 3, cells := 0, slots := 0, locals := 70 }
def f_JStr_indexOf1 (post : Int32 → SS → Prop) (σ : SS) (j0 : Nat) (x1 : Int32) : Prop := (j0 < 50) ∧ f_JStr_indexOf2 (fun r_3 σ_2 => post r_3 σ_2) σ j0 x1 0
section
variable {p : Program} {l : Launch} {e : Env} {s : State} {m : MethodId} {args : Array Value} {below : List Frame} {meth : Method} {c : Code} {Q : State → Prop} {D : va_G} {cA : Nat → ClassId} {a : Nat → Nat} {ad : Nat → Nat → Nat} {A : Nat → Prop}
set_option maxHeartbeats 4000000 in
set_option maxRecDepth 100000 in
theorem e_JStr_indexOf1 (fx : CallFix p m c b_JStr_indexOf1 2 s args GW "java/lang/String") {post : Int32 → SS → Prop} (HR : RetI p l e r_JStr_indexOf1 s m args below meth c Q D vcl (tyl cA) (wC cA a) (XC ad) A b_JStr_indexOf1 .int post) {σ : SS} {j0 : Nat} {x1 : Int32} {H : Heap} {locs : List Loc} {ls : Array Slot} (h : f_JStr_indexOf1 post σ j0 x1) (hw : CX D vcl (tyl cA) (wC cA a σ) (XC ad) A s H locs) (hl : lv_has ls 2 [(0, .ref (ad 2 j0)), (1, .int x1)]) : W p l e r_JStr_indexOf1 s m args below meth c H locs 0 0 Q (F0 m 0 ls []) := by
  have hx := fx.1
  have hb := fx.2.1
  unfold f_JStr_indexOf1 at h
  refine lv_aload_n (pc := 0) hx hb d_JStr_indexOf1_0 rfl (lv_at hl 0 rfl) ?_
  refine lv_iload_n (pc := 1) hx hb d_JStr_indexOf1_1 rfl (lv_at hl 1 rfl) ?_
  refine lv_iconst (pc := 2) (v := 0) hx hb d_JStr_indexOf1_2 (by decide) ?_
  have b_1 := h.1
  replace h := h.2
  refine rsI (pc := 3) hw (rnV (pc := 3) xtC fx hw (c_JStr_indexOf2 h _) cw_JStr_633 (rcK hw b_1) rfl ⟨Nat.le_of_ble_eq_true rfl, Nat.le_of_ble_eq_true rfl⟩ hl.1 (Nat.le_of_ble_eq_true rfl) d_JStr_indexOf1_3 ⟨Nat.zero_le _, Nat.zero_le _⟩) (fun r_3 σ_2 H locs hw h => ?_)
  exact HR rfl d_JStr_indexOf1_6 h hw
end
theorem c_JStr_indexOf1 {l : Launch} {D : va_G} {cA : Nat → ClassId} {a : Nat → Nat} {ad : Nat → Nat → Nat} {σ : SS} {post : Int32 → SS → Prop} {j0 : Nat} {x1 : Int32} (h : f_JStr_indexOf1 post σ j0 x1) : mI l y_JStr_indexOf1 b_JStr_indexOf1 2 (some .int) 3 70 D vcl (tyl cA) (wC cA a) (XC ad) σ [.ref (ad 2 j0), .int x1] post := met_I (by decide) (Nat.le_of_ble_eq_true rfl) (fun p e s m args below meth c A Q fx HR H ls hw hl => e_JStr_indexOf1  fx HR h hw hl)
abbrev r_I_skipLine : Room := { frames := 0, cells := 0, slots := 0, locals := 0 }
def f_I_skipLine_0 (post : SS → Prop) : Nat → SS → Prop
  | 0, _ => False
  | n + 1, σ => br ((σ.1 34) ≤ (σ.1 36)) (post σ) (vp_in (σ.1 36) 6000 ∧ br ((σ.2.1 12 (σ.1 36).toNatClampNeg) = 10) (post σ) (nm (sI σ 36 ((σ.1 36) + 1)) fun σ_1 => f_I_skipLine_0 post n σ_1))
def f_I_skipLine (post : SS → Prop) (σ : SS) : Prop := ∃ n9, f_I_skipLine_0 post n9 σ
section
variable {p : Program} {l : Launch} {e : Env} {s : State} {m : MethodId} {args : Array Value} {below : List Frame} {meth : Method} {c : Code} {Q : State → Prop} {D : va_G} {cA : Nat → ClassId} {a : Nat → Nat} {ad : Nat → Nat → Nat} {A : Nat → Prop}
set_option maxHeartbeats 4000000 in
set_option maxRecDepth 100000 in
theorem c_I_skipLine_0 (fx : CallFix p m c b_I_skipLine 1 s args GW RNI) {post : SS → Prop} (HR : RetV p l e r_I_skipLine s m args below meth c Q D vcl (tyl cA) (wC cA a) (XC ad) A b_I_skipLine post) : ∀ (n : Nat) {σ : SS} {H : Heap} {locs : List Loc} {ls : Array Slot}, f_I_skipLine_0 post n σ → CX D vcl (tyl cA) (wC cA a σ) (XC ad) A s H locs → lv_has ls 1 [(0, .ref (a 11))] → W p l e r_I_skipLine s m args below meth c H locs 0 0 Q (F0 m 0 ls []) := by
  have hx := fx.1
  have hb := fx.2.1
  intro n
  induction n with
  | zero => intro σ H locs ls h; exact h.elim
  | succ n ih =>
    intro σ H locs ls h hw hl
    have K0 := @ih
    unfold f_I_skipLine_0 at h
    refine lv_aload_n (pc := 0) hx hb d_I_skipLine_0 rfl (lv_at hl 0 rfl) ?_
    refine gC_11_position (pc := 1) fx hw kw_187 d_I_skipLine_1 ?_
    refine lv_aload_n (pc := 4) hx hb d_I_skipLine_4 rfl (lv_at hl 0 rfl) ?_
    refine gC_11_length (pc := 5) fx hw kw_182 d_I_skipLine_5 ?_
    refine lv_icmp_ge (pc := 8) (tgt := 38) hx hb d_I_skipLine_8 (by decide) (fun c9 => ?_) (fun c9 => ?_)
    · replace h := h.1 c9
      exact HR d_I_skipLine_38 h hw
    · replace h := h.2 c9
      refine lv_aload_n (pc := 11) hx hb d_I_skipLine_11 rfl (lv_at hl 0 rfl) ?_
      refine gC_11_text (pc := 12) fx hw kw_180 d_I_skipLine_12 ?_
      refine lv_aload_n (pc := 15) hx hb d_I_skipLine_15 rfl (lv_at hl 0 rfl) ?_
      refine gC_11_position (pc := 16) fx hw kw_187 d_I_skipLine_16 ?_
      refine alC_12 (pc := 19) fx hw h.1 d_I_skipLine_19 ?_
      replace h := h.2
      refine lv_bipush (pc := 20) (v := 10) hx hb d_I_skipLine_20 (by decide) ?_
      refine lv_icmp_eq (pc := 22) (tgt := 38) hx hb d_I_skipLine_22 (by decide) (fun c9 => ?_) (fun c9 => ?_)
      · replace h := h.1 c9
        exact HR d_I_skipLine_38 h hw
      · replace h := h.2 c9
        refine lv_aload_n (pc := 25) hx hb d_I_skipLine_25 rfl (lv_at hl 0 rfl) ?_
        refine lv_dup (pc := 26) hx hb d_I_skipLine_26 rfl ?_
        refine gC_11_position (pc := 27) fx hw kw_187 d_I_skipLine_27 ?_
        refine lv_iconst (pc := 30) (v := 1) hx hb d_I_skipLine_30 (by decide) ?_
        refine lv_iadd (pc := 31) hx hb d_I_skipLine_31 ?_
        refine pC_11_position (pc := 32) fx hw kw_187 d_I_skipLine_32 (fun σ_1 e9 H locs hw => ?_)
        replace h := nm_u h e9
        clear e9
        refine lv_goto (pc := 35) (tgt := 0) hx hb d_I_skipLine_35 (by decide) ?_
        exact K0 h hw (lv_sub hl [0] rfl)
set_option maxHeartbeats 4000000 in
set_option maxRecDepth 100000 in
theorem e_I_skipLine (fx : CallFix p m c b_I_skipLine 1 s args GW RNI) {post : SS → Prop} (HR : RetV p l e r_I_skipLine s m args below meth c Q D vcl (tyl cA) (wC cA a) (XC ad) A b_I_skipLine post) {σ : SS} {H : Heap} {locs : List Loc} {ls : Array Slot} (h : f_I_skipLine post σ) (hw : CX D vcl (tyl cA) (wC cA a σ) (XC ad) A s H locs) (hl : lv_has ls 1 [(0, .ref (a 11))]) : W p l e r_I_skipLine s m args below meth c H locs 0 0 Q (F0 m 0 ls []) := by
  have hx := fx.1
  have hb := fx.2.1
  unfold f_I_skipLine at h
  obtain ⟨n9, h⟩ := h
  exact c_I_skipLine_0  fx HR n9 h hw (lv_sub hl [0] rfl)
end
theorem c_I_skipLine {l : Launch} {D : va_G} {cA : Nat → ClassId} {a : Nat → Nat} {ad : Nat → Nat → Nat} {σ : SS} {post : SS → Prop} (h : f_I_skipLine post σ) : mV l y_I_skipLine b_I_skipLine 1 none 0 0 D vcl (tyl cA) (wC cA a) (XC ad) σ [.ref (a 11)] post := met_V (by decide) (Nat.le_of_ble_eq_true rfl) (fun p e s m args below meth c A Q fx HR H ls hw hl => e_I_skipLine  fx HR h hw hl)
abbrev r_I_nameFrom : Room := { frames := 0, cells := 0, slots := 0, locals := 0 }
def f_I_nameFrom_18 (post : Int64 → SS → Prop) : Nat → SS → Int32 → Int64 → Int32 → Prop
  | 0, _, _, _, _ => False
  | n + 1, σ, x1, x2, x4 => br ((σ.1 36) ≤ x4) (post (x2 ||| 2) σ) (vp_in x4 6000 ∧ nm (x2 ||| (((σ.2.1 12 x4.toNatClampNeg).toInt64) <<< ((56 - (8 * (x4 - x1))).toInt64 &&& 63))) fun x2_1 => nm (x4 + 1) fun x4_2 => f_I_nameFrom_18 post n σ x1 x2_1 x4_2)
def f_I_nameFrom (post : Int64 → SS → Prop) (σ : SS) (x1 : Int32) : Prop := br (((σ.1 36) - x1) ≤ 6) (∃ n9, f_I_nameFrom_18 post n9 σ x1 0 x1) (post 1 σ)
section
variable {p : Program} {l : Launch} {e : Env} {s : State} {m : MethodId} {args : Array Value} {below : List Frame} {meth : Method} {c : Code} {Q : State → Prop} {D : va_G} {cA : Nat → ClassId} {a : Nat → Nat} {ad : Nat → Nat → Nat} {A : Nat → Prop}
set_option maxHeartbeats 4000000 in
set_option maxRecDepth 100000 in
theorem c_I_nameFrom_18 (fx : CallFix p m c b_I_nameFrom 5 s args GW RNI) {post : Int64 → SS → Prop} (HR : RetJ p l e r_I_nameFrom s m args below meth c Q D vcl (tyl cA) (wC cA a) (XC ad) A b_I_nameFrom post) : ∀ (n : Nat) {σ : SS} {x1 : Int32} {x2 : Int64} {x4 : Int32} {H : Heap} {locs : List Loc} {ls : Array Slot}, f_I_nameFrom_18 post n σ x1 x2 x4 → CX D vcl (tyl cA) (wC cA a σ) (XC ad) A s H locs → lv_has ls 5 [(0, .ref (a 11)), (1, .int x1), (2, .long x2), (4, .int x4)] → W p l e r_I_nameFrom s m args below meth c H locs 0 0 Q (F0 m 18 ls []) := by
  have hx := fx.1
  have hb := fx.2.1
  intro n
  induction n with
  | zero => intro σ x1 x2 x4 H locs ls h; exact h.elim
  | succ n ih =>
    intro σ x1 x2 x4 H locs ls h hw hl
    have K18 := @ih
    unfold f_I_nameFrom_18 at h
    refine lv_iload (pc := 18) hx hb d_I_nameFrom_18 (lv_at hl 3 rfl) ?_
    refine lv_aload_n (pc := 20) hx hb d_I_nameFrom_20 rfl (lv_at hl 0 rfl) ?_
    refine gC_11_position (pc := 21) fx hw kw_187 d_I_nameFrom_21 ?_
    refine lv_icmp_ge (pc := 24) (tgt := 55) hx hb d_I_nameFrom_24 (by decide) (fun c9 => ?_) (fun c9 => ?_)
    · replace h := h.1 c9
      refine lv_lload_n (pc := 55) hx hb d_I_nameFrom_55 rfl (lv_at hl 2 rfl) ?_
      refine lv_ldc2 (pc := 56) (v := 2) hx hb fx.2.2.2.1 (fx.2.2.2.2 _ kw_387) d_I_nameFrom_56 ?_
      refine lv_lor (pc := 59) hx hb d_I_nameFrom_59 ?_
      exact HR d_I_nameFrom_60 h hw
    · replace h := h.2 c9
      refine lv_lload_n (pc := 27) hx hb d_I_nameFrom_27 rfl (lv_at hl 2 rfl) ?_
      refine lv_aload_n (pc := 28) hx hb d_I_nameFrom_28 rfl (lv_at hl 0 rfl) ?_
      refine gC_11_text (pc := 29) fx hw kw_180 d_I_nameFrom_29 ?_
      refine lv_iload (pc := 32) hx hb d_I_nameFrom_32 (lv_at hl 3 rfl) ?_
      refine alC_12 (pc := 34) fx hw h.1 d_I_nameFrom_34 ?_
      replace h := h.2
      refine lv_i2l (pc := 35) hx hb d_I_nameFrom_35 rfl ?_
      refine lv_bipush (pc := 36) (v := 56) hx hb d_I_nameFrom_36 (by decide) ?_
      refine lv_bipush (pc := 38) (v := 8) hx hb d_I_nameFrom_38 (by decide) ?_
      refine lv_iload (pc := 40) hx hb d_I_nameFrom_40 (lv_at hl 3 rfl) ?_
      refine lv_iload_n (pc := 42) hx hb d_I_nameFrom_42 rfl (lv_at hl 1 rfl) ?_
      refine lv_isub (pc := 43) hx hb d_I_nameFrom_43 ?_
      refine lv_imul (pc := 44) hx hb d_I_nameFrom_44 ?_
      refine lv_isub (pc := 45) hx hb d_I_nameFrom_45 ?_
      refine lv_lshl (pc := 46) hx hb d_I_nameFrom_46 rfl ?_
      refine lv_lor (pc := 47) hx hb d_I_nameFrom_47 ?_
      refine lv_topl (fun x2_1 e9 => ?_)
      replace h := nm_u h e9
      clear e9
      refine lv_lstore_n (pc := 48) (lv' := [(2, .long x2_1), (0, .ref (a 11)), (1, .int x1), (4, .int x4)]) hx hb d_I_nameFrom_48 rfl hl (by decide) rfl (fun ls hl => ?_)
      obtain ⟨x4_2, e9⟩ : ∃ z : Int32, z = x4 + 1 := ⟨_, rfl⟩
      replace h := nm_u h e9
      refine lv_iinc (pc := 49) (v := x4_2) (lv' := [(4, .int x4_2), (2, .long x2_1), (0, .ref (a 11)), (1, .int x1)]) hx hb d_I_nameFrom_49 hl (k := 3) rfl (by rw [e9]; rfl) (by decide) rfl (fun ls hl => ?_)
      clear e9
      refine lv_goto (pc := 52) (tgt := 18) hx hb d_I_nameFrom_52 (by decide) ?_
      exact K18 h hw (lv_sub hl [2, 3, 1, 0] rfl)
set_option maxHeartbeats 4000000 in
set_option maxRecDepth 100000 in
theorem e_I_nameFrom (fx : CallFix p m c b_I_nameFrom 5 s args GW RNI) {post : Int64 → SS → Prop} (HR : RetJ p l e r_I_nameFrom s m args below meth c Q D vcl (tyl cA) (wC cA a) (XC ad) A b_I_nameFrom post) {σ : SS} {x1 : Int32} {H : Heap} {locs : List Loc} {ls : Array Slot} (h : f_I_nameFrom post σ x1) (hw : CX D vcl (tyl cA) (wC cA a σ) (XC ad) A s H locs) (hl : lv_has ls 5 [(0, .ref (a 11)), (1, .int x1)]) : W p l e r_I_nameFrom s m args below meth c H locs 0 0 Q (F0 m 0 ls []) := by
  have hx := fx.1
  have hb := fx.2.1
  unfold f_I_nameFrom at h
  refine lv_aload_n (pc := 0) hx hb d_I_nameFrom_0 rfl (lv_at hl 0 rfl) ?_
  refine gC_11_position (pc := 1) fx hw kw_187 d_I_nameFrom_1 ?_
  refine lv_iload_n (pc := 4) hx hb d_I_nameFrom_4 rfl (lv_at hl 1 rfl) ?_
  refine lv_isub (pc := 5) hx hb d_I_nameFrom_5 ?_
  refine lv_bipush (pc := 6) (v := 6) hx hb d_I_nameFrom_6 (by decide) ?_
  refine lv_icmp_le (pc := 8) (tgt := 13) hx hb d_I_nameFrom_8 (by decide) (fun c9 => ?_) (fun c9 => ?_)
  · replace h := h.1 c9
    refine lv_lconst (pc := 13) (v := 0) hx hb d_I_nameFrom_13 (by decide) ?_
    refine lv_lstore_n (pc := 14) (lv' := [(2, .long 0), (0, .ref (a 11)), (1, .int x1)]) hx hb d_I_nameFrom_14 rfl hl (by decide) rfl (fun ls hl => ?_)
    refine lv_iload_n (pc := 15) hx hb d_I_nameFrom_15 rfl (lv_at hl 2 rfl) ?_
    refine lv_istore (pc := 16) (lv' := [(4, .int x1), (2, .long 0), (0, .ref (a 11)), (1, .int x1)]) hx hb d_I_nameFrom_16 hl (by decide) rfl (fun ls hl => ?_)
    obtain ⟨n9, h⟩ := h
    exact c_I_nameFrom_18  fx HR n9 h hw (lv_sub hl [2, 3, 1, 0] rfl)
  · replace h := h.2 c9
    refine lv_lconst (pc := 11) (v := 1) hx hb d_I_nameFrom_11 (by decide) ?_
    exact HR d_I_nameFrom_12 h hw
end
theorem c_I_nameFrom {l : Launch} {D : va_G} {cA : Nat → ClassId} {a : Nat → Nat} {ad : Nat → Nat → Nat} {σ : SS} {post : Int64 → SS → Prop} {x1 : Int32} (h : f_I_nameFrom post σ x1) : mJ l y_I_nameFrom b_I_nameFrom 5 (some .long) 0 0 D vcl (tyl cA) (wC cA a) (XC ad) σ [.ref (a 11), .int x1] post := met_J (by decide) (Nat.le_of_ble_eq_true rfl) (fun p e s m args below meth c A Q fx HR H ls hw hl => e_I_nameFrom  fx HR h hw hl)
abbrev r_I_numberFrom : Room := { frames := 1, cells := 0, slots := 0, locals := 24 }
def f_I_numberFrom_5 (post : Int64 → SS → Prop) : Nat → SS → Int64 → Int32 → Prop
  | 0, _, _, _ => False
  | n + 1, σ, x2, x4 => br ((σ.1 36) ≤ x4) (br ((lg_cmp x2 65535) ≤ 0) (post ((x2 <<< ((16 : Int32).toInt64 &&& 63)) ||| 3) σ) (post 1 σ)) (vp_in x4 6000 ∧ nm (σ.2.1 12 x4.toNatClampNeg) fun x5_1 => br (x5_1 < 48) (post 1 σ) (br (x5_1 ≤ 55) (nm (if 65536 < ((x2 * 8) + ((x5_1 - 48).toInt64)) then 65536 else ((x2 * 8) + ((x5_1 - 48).toInt64))) fun x2_2 => nm (x4 + 1) fun x4_3 => f_I_numberFrom_5 post n σ x2_2 x4_3) (post 1 σ)))
def f_I_numberFrom (post : Int64 → SS → Prop) (σ : SS) (x1 : Int32) : Prop := ∃ n9, f_I_numberFrom_5 post n9 σ 0 x1
section
variable {p : Program} {l : Launch} {e : Env} {s : State} {m : MethodId} {args : Array Value} {below : List Frame} {meth : Method} {c : Code} {Q : State → Prop} {D : va_G} {cA : Nat → ClassId} {a : Nat → Nat} {ad : Nat → Nat → Nat} {A : Nat → Prop}
set_option maxHeartbeats 4000000 in
set_option maxRecDepth 100000 in
theorem c_I_numberFrom_5 (fx : CallFix p m c b_I_numberFrom 6 s args GW RNI) {post : Int64 → SS → Prop} (HR : RetJ p l e r_I_numberFrom s m args below meth c Q D vcl (tyl cA) (wC cA a) (XC ad) A b_I_numberFrom post) : ∀ (n : Nat) {σ : SS} {x2 : Int64} {x4 : Int32} {H : Heap} {locs : List Loc} {ls : Array Slot}, f_I_numberFrom_5 post n σ x2 x4 → CX D vcl (tyl cA) (wC cA a σ) (XC ad) A s H locs → lv_has ls 6 [(0, .ref (a 11)), (2, .long x2), (4, .int x4)] → W p l e r_I_numberFrom s m args below meth c H locs 0 0 Q (F0 m 5 ls []) := by
  have hx := fx.1
  have hb := fx.2.1
  intro n
  induction n with
  | zero => intro σ x2 x4 H locs ls h; exact h.elim
  | succ n ih =>
    intro σ x2 x4 H locs ls h hw hl
    have K5 := @ih
    unfold f_I_numberFrom_5 at h
    refine lv_iload (pc := 5) hx hb d_I_numberFrom_5 (lv_at hl 2 rfl) ?_
    refine lv_aload_n (pc := 7) hx hb d_I_numberFrom_7 rfl (lv_at hl 0 rfl) ?_
    refine gC_11_position (pc := 8) fx hw kw_187 d_I_numberFrom_8 ?_
    refine lv_icmp_ge (pc := 11) (tgt := 64) hx hb d_I_numberFrom_11 (by decide) (fun c9 => ?_) (fun c9 => ?_)
    · replace h := h.1 c9
      refine lv_lload_n (pc := 64) hx hb d_I_numberFrom_64 rfl (lv_at hl 1 rfl) ?_
      refine lv_ldc2 (pc := 65) (v := 65535) hx hb fx.2.2.2.1 (fx.2.2.2.2 _ kw_381) d_I_numberFrom_65 ?_
      refine W.lcmp (pc := 68) hx hb d_I_numberFrom_68 ?_
      refine lv_if_le (pc := 69) (tgt := 76) hx hb d_I_numberFrom_69 (by decide) (fun c9 => ?_) (fun c9 => ?_)
      · replace h := h.1 c9
        refine lv_lload_n (pc := 76) hx hb d_I_numberFrom_76 rfl (lv_at hl 1 rfl) ?_
        refine lv_bipush (pc := 77) (v := 16) hx hb d_I_numberFrom_77 (by decide) ?_
        refine lv_lshl (pc := 79) hx hb d_I_numberFrom_79 rfl ?_
        refine lv_ldc2 (pc := 80) (v := 3) hx hb fx.2.2.2.1 (fx.2.2.2.2 _ kw_382) d_I_numberFrom_80 ?_
        refine lv_lor (pc := 83) hx hb d_I_numberFrom_83 ?_
        exact HR d_I_numberFrom_84 h hw
      · replace h := h.2 c9
        refine lv_lconst (pc := 72) (v := 1) hx hb d_I_numberFrom_72 (by decide) ?_
        refine lv_goto (pc := 73) (tgt := 84) hx hb d_I_numberFrom_73 (by decide) ?_
        exact HR d_I_numberFrom_84 h hw
    · replace h := h.2 c9
      refine lv_aload_n (pc := 14) hx hb d_I_numberFrom_14 rfl (lv_at hl 0 rfl) ?_
      refine gC_11_text (pc := 15) fx hw kw_180 d_I_numberFrom_15 ?_
      refine lv_iload (pc := 18) hx hb d_I_numberFrom_18 (lv_at hl 2 rfl) ?_
      refine alC_12 (pc := 20) fx hw h.1 d_I_numberFrom_20 ?_
      replace h := h.2
      refine lv_topi (fun x5_1 e9 => ?_)
      replace h := nm_u h e9
      clear e9
      refine lv_istore (pc := 21) (lv' := [(5, .int x5_1), (0, .ref (a 11)), (2, .long x2), (4, .int x4)]) hx hb d_I_numberFrom_21 hl (by decide) rfl (fun ls hl => ?_)
      refine lv_iload (pc := 23) hx hb d_I_numberFrom_23 (lv_at hl 0 rfl) ?_
      refine lv_bipush (pc := 25) (v := 48) hx hb d_I_numberFrom_25 (by decide) ?_
      refine lv_icmp_lt (pc := 27) (tgt := 37) hx hb d_I_numberFrom_27 (by decide) (fun c9 => ?_) (fun c9 => ?_)
      · replace h := h.1 c9
        refine lv_lconst (pc := 37) (v := 1) hx hb d_I_numberFrom_37 (by decide) ?_
        exact HR d_I_numberFrom_38 h hw
      · replace h := h.2 c9
        refine lv_iload (pc := 30) hx hb d_I_numberFrom_30 (lv_at hl 0 rfl) ?_
        refine lv_bipush (pc := 32) (v := 55) hx hb d_I_numberFrom_32 (by decide) ?_
        refine lv_icmp_le (pc := 34) (tgt := 39) hx hb d_I_numberFrom_34 (by decide) (fun c9 => ?_) (fun c9 => ?_)
        · replace h := h.1 c9
          refine lv_lload_n (pc := 39) hx hb d_I_numberFrom_39 rfl (lv_at hl 2 rfl) ?_
          refine lv_ldc2 (pc := 40) (v := 8) hx hb fx.2.2.2.1 (fx.2.2.2.2 _ kw_376) d_I_numberFrom_40 ?_
          refine lv_lmul (pc := 43) hx hb d_I_numberFrom_43 ?_
          refine lv_iload (pc := 44) hx hb d_I_numberFrom_44 (lv_at hl 0 rfl) ?_
          refine lv_bipush (pc := 46) (v := 48) hx hb d_I_numberFrom_46 (by decide) ?_
          refine lv_isub (pc := 48) hx hb d_I_numberFrom_48 ?_
          refine lv_i2l (pc := 49) hx hb d_I_numberFrom_49 rfl ?_
          refine lv_ladd (pc := 50) hx hb d_I_numberFrom_50 ?_
          refine lv_ldc2 (pc := 51) (v := 65536) hx hb fx.2.2.2.1 (fx.2.2.2.2 _ kw_377) d_I_numberFrom_51 ?_
          refine va_mmin_long (pc := 54) hx hb (fx.2.2.1.trans hl.1.symm) fx.2.2.2.1 (fx.2.2.2.2 _ kw_378) (fx.2.2.2.2 _ kw_379) (fx.2.2.2.2 _ kw_17) (fx.2.2.2.2 _ kw_380) (Nat.le_of_ble_eq_true rfl) (Nat.le_of_ble_eq_true rfl) (Nat.zero_le _) (Nat.zero_le _) d_I_numberFrom_54 ?_
          refine lv_topl (fun x2_2 e9 => ?_)
          replace h := nm_u h e9
          clear e9
          refine lv_lstore_n (pc := 57) (lv' := [(2, .long x2_2), (5, .int x5_1), (0, .ref (a 11)), (4, .int x4)]) hx hb d_I_numberFrom_57 rfl hl (by decide) rfl (fun ls hl => ?_)
          obtain ⟨x4_3, e9⟩ : ∃ z : Int32, z = x4 + 1 := ⟨_, rfl⟩
          replace h := nm_u h e9
          refine lv_iinc (pc := 58) (v := x4_3) (lv' := [(4, .int x4_3), (2, .long x2_2), (5, .int x5_1), (0, .ref (a 11))]) hx hb d_I_numberFrom_58 hl (k := 3) rfl (by rw [e9]; rfl) (by decide) rfl (fun ls hl => ?_)
          clear e9
          refine lv_goto (pc := 61) (tgt := 5) hx hb d_I_numberFrom_61 (by decide) ?_
          exact K5 h hw (lv_sub hl [3, 1, 0] rfl)
        · replace h := h.2 c9
          refine lv_lconst (pc := 37) (v := 1) hx hb d_I_numberFrom_37 (by decide) ?_
          exact HR d_I_numberFrom_38 h hw
set_option maxHeartbeats 4000000 in
set_option maxRecDepth 100000 in
theorem e_I_numberFrom (fx : CallFix p m c b_I_numberFrom 6 s args GW RNI) {post : Int64 → SS → Prop} (HR : RetJ p l e r_I_numberFrom s m args below meth c Q D vcl (tyl cA) (wC cA a) (XC ad) A b_I_numberFrom post) {σ : SS} {x1 : Int32} {H : Heap} {locs : List Loc} {ls : Array Slot} (h : f_I_numberFrom post σ x1) (hw : CX D vcl (tyl cA) (wC cA a σ) (XC ad) A s H locs) (hl : lv_has ls 6 [(0, .ref (a 11)), (1, .int x1)]) : W p l e r_I_numberFrom s m args below meth c H locs 0 0 Q (F0 m 0 ls []) := by
  have hx := fx.1
  have hb := fx.2.1
  unfold f_I_numberFrom at h
  refine lv_lconst (pc := 0) (v := 0) hx hb d_I_numberFrom_0 (by decide) ?_
  refine lv_lstore_n (pc := 1) (lv' := [(2, .long 0), (0, .ref (a 11)), (1, .int x1)]) hx hb d_I_numberFrom_1 rfl hl (by decide) rfl (fun ls hl => ?_)
  refine lv_iload_n (pc := 2) hx hb d_I_numberFrom_2 rfl (lv_at hl 2 rfl) ?_
  refine lv_istore (pc := 3) (lv' := [(4, .int x1), (2, .long 0), (0, .ref (a 11)), (1, .int x1)]) hx hb d_I_numberFrom_3 hl (by decide) rfl (fun ls hl => ?_)
  obtain ⟨n9, h⟩ := h
  exact c_I_numberFrom_5  fx HR n9 h hw (lv_sub hl [2, 1, 0] rfl)
end
theorem c_I_numberFrom {l : Launch} {D : va_G} {cA : Nat → ClassId} {a : Nat → Nat} {ad : Nat → Nat → Nat} {σ : SS} {post : Int64 → SS → Prop} {x1 : Int32} (h : f_I_numberFrom post σ x1) : mJ l y_I_numberFrom b_I_numberFrom 6 (some .long) 1 24 D vcl (tyl cA) (wC cA a) (XC ad) σ [.ref (a 11), .int x1] post := met_J (by decide) (Nat.le_of_ble_eq_true rfl) (fun p e s m args below meth c A Q fx HR H ls hw hl => e_I_numberFrom  fx HR h hw hl)
abbrev r_I_splitLetters : Room := { frames := 2, cells := 0, slots := 0, locals := 49 }
def f_I_splitLetters_65 (post : SS → Prop) (σ : SS) (s0 : Int64) : Prop := f_I_add (fun σ_1 => post σ_1) σ s0
def f_I_splitLetters_44 (post : SS → Prop) (σ : SS) (x1 : Int32) (x2 : Int32) : Prop := f_I_isDigit (fun r_4 σ_3 => br (r_4 = 0) (f_I_nameFrom (fun r_6 σ_5 => f_I_splitLetters_65 post σ_5 r_6) σ_3 x2) (f_I_numberFrom (fun r_8 σ_7 => f_I_splitLetters_65 post σ_7 r_8) σ_3 x2)) σ x1
def f_I_splitLetters_5 (post : SS → Prop) : Nat → SS → Int32 → Int32 → Prop
  | 0, _, _, _ => False
  | n + 1, σ, x1, x2 => br ((σ.1 34) ≤ (σ.1 36)) (f_I_splitLetters_44 post σ x1 x2) (vp_in (σ.1 36) 6000 ∧ f_I_goesOn (fun r_10 σ_9 => br (r_10 = 0) (f_I_splitLetters_44 post σ_9 x1 x2) (nm (sI σ_9 36 ((σ_9.1 36) + 1)) fun σ_11 => f_I_splitLetters_5 post n σ_11 x1 x2)) σ (σ.2.1 12 (σ.1 36).toNatClampNeg))
def f_I_splitLetters (post : SS → Prop) (σ : SS) (x1 : Int32) : Prop := nm (σ.1 36) fun x2_12 => ∃ n9, f_I_splitLetters_5 post n9 σ x1 x2_12
section
variable {p : Program} {l : Launch} {e : Env} {s : State} {m : MethodId} {args : Array Value} {below : List Frame} {meth : Method} {c : Code} {Q : State → Prop} {D : va_G} {cA : Nat → ClassId} {a : Nat → Nat} {ad : Nat → Nat → Nat} {A : Nat → Prop}
set_option maxHeartbeats 4000000 in
set_option maxRecDepth 100000 in
theorem c_I_splitLetters_65 (fx : CallFix p m c b_I_splitLetters 3 s args GW RNI) {post : SS → Prop} (HR : RetV p l e r_I_splitLetters s m args below meth c Q D vcl (tyl cA) (wC cA a) (XC ad) A b_I_splitLetters post) {σ : SS} {s0 : Int64} {H : Heap} {locs : List Loc} {ls : Array Slot} (h : f_I_splitLetters_65 post σ s0) (hw : CX D vcl (tyl cA) (wC cA a σ) (XC ad) A s H locs) (hl : lv_has ls 3 []) : W p l e r_I_splitLetters s m args below meth c H locs 0 0 Q (F0 m 65 ls [.long s0, .ref (a 11)]) := by
  have hx := fx.1
  have hb := fx.2.1
  unfold f_I_splitLetters_65 at h
  refine rsV (pc := 65) hw (rnV (pc := 65) xtC fx hw (c_I_add h _) cw_I_41 (rcC_11 hw) rfl ⟨Nat.le_of_ble_eq_true rfl, Nat.le_of_ble_eq_true rfl⟩ hl.1 (Nat.le_of_ble_eq_true rfl) d_I_splitLetters_65 ⟨Nat.zero_le _, Nat.zero_le _⟩) (fun σ_1 H locs hw h => ?_)
  exact HR d_I_splitLetters_68 h hw
set_option maxHeartbeats 4000000 in
set_option maxRecDepth 100000 in
theorem c_I_splitLetters_44 (fx : CallFix p m c b_I_splitLetters 3 s args GW RNI) {post : SS → Prop} (HR : RetV p l e r_I_splitLetters s m args below meth c Q D vcl (tyl cA) (wC cA a) (XC ad) A b_I_splitLetters post) {σ : SS} {x1 : Int32} {x2 : Int32} {H : Heap} {locs : List Loc} {ls : Array Slot} (h : f_I_splitLetters_44 post σ x1 x2) (hw : CX D vcl (tyl cA) (wC cA a σ) (XC ad) A s H locs) (hl : lv_has ls 3 [(0, .ref (a 11)), (1, .int x1), (2, .int x2)]) : W p l e r_I_splitLetters s m args below meth c H locs 0 0 Q (F0 m 44 ls []) := by
  have hx := fx.1
  have hb := fx.2.1
  unfold f_I_splitLetters_44 at h
  refine lv_aload_n (pc := 44) hx hb d_I_splitLetters_44 rfl (lv_at hl 0 rfl) ?_
  refine lv_iload_n (pc := 45) hx hb d_I_splitLetters_45 rfl (lv_at hl 1 rfl) ?_
  refine rsI (pc := 46) hw (rnS (pc := 46) xtC fx hw (c_I_isDigit h _) cw_I_64 rfl ⟨Nat.le_of_ble_eq_true rfl, Nat.le_of_ble_eq_true rfl⟩ hl.1 (Nat.le_of_ble_eq_true rfl) d_I_splitLetters_46 ⟨Nat.zero_le _, Nat.zero_le _⟩) (fun r_4 σ_3 H locs hw h => ?_)
  have zr_4 := h.1
  replace h := h.2
  refine lv_if_eq (pc := 49) (tgt := 60) hx hb d_I_splitLetters_49 (by decide) (fun c9 => ?_) (fun c9 => ?_)
  · replace h := h.1 c9
    refine lv_aload_n (pc := 60) hx hb d_I_splitLetters_60 rfl (lv_at hl 0 rfl) ?_
    refine lv_iload_n (pc := 61) hx hb d_I_splitLetters_61 rfl (lv_at hl 2 rfl) ?_
    refine rsJ (pc := 62) hw (rnV (pc := 62) xtC fx hw (c_I_nameFrom h _) cw_I_70 (rcC_11 hw) rfl ⟨Nat.le_of_ble_eq_true rfl, Nat.le_of_ble_eq_true rfl⟩ hl.1 (Nat.le_of_ble_eq_true rfl) d_I_splitLetters_62 ⟨Nat.zero_le _, Nat.zero_le _⟩) (fun r_6 σ_5 H locs hw h => ?_)
    exact c_I_splitLetters_65  fx HR h hw (lv_sub hl [] rfl)
  · replace h := h.2 c9
    refine lv_aload_n (pc := 52) hx hb d_I_splitLetters_52 rfl (lv_at hl 0 rfl) ?_
    refine lv_iload_n (pc := 53) hx hb d_I_splitLetters_53 rfl (lv_at hl 2 rfl) ?_
    refine rsJ (pc := 54) hw (rnV (pc := 54) xtC fx hw (c_I_numberFrom h _) cw_I_67 (rcC_11 hw) rfl ⟨Nat.le_of_ble_eq_true rfl, Nat.le_of_ble_eq_true rfl⟩ hl.1 (Nat.le_of_ble_eq_true rfl) d_I_splitLetters_54 ⟨Nat.zero_le _, Nat.zero_le _⟩) (fun r_8 σ_7 H locs hw h => ?_)
    refine lv_goto (pc := 57) (tgt := 65) hx hb d_I_splitLetters_57 (by decide) ?_
    exact c_I_splitLetters_65  fx HR h hw (lv_sub hl [] rfl)
set_option maxHeartbeats 4000000 in
set_option maxRecDepth 100000 in
theorem c_I_splitLetters_5 (fx : CallFix p m c b_I_splitLetters 3 s args GW RNI) {post : SS → Prop} (HR : RetV p l e r_I_splitLetters s m args below meth c Q D vcl (tyl cA) (wC cA a) (XC ad) A b_I_splitLetters post) : ∀ (n : Nat) {σ : SS} {x1 : Int32} {x2 : Int32} {H : Heap} {locs : List Loc} {ls : Array Slot}, f_I_splitLetters_5 post n σ x1 x2 → CX D vcl (tyl cA) (wC cA a σ) (XC ad) A s H locs → lv_has ls 3 [(0, .ref (a 11)), (1, .int x1), (2, .int x2)] → W p l e r_I_splitLetters s m args below meth c H locs 0 0 Q (F0 m 5 ls []) := by
  have hx := fx.1
  have hb := fx.2.1
  intro n
  induction n with
  | zero => intro σ x1 x2 H locs ls h; exact h.elim
  | succ n ih =>
    intro σ x1 x2 H locs ls h hw hl
    have K5 := @ih
    unfold f_I_splitLetters_5 at h
    refine lv_aload_n (pc := 5) hx hb d_I_splitLetters_5 rfl (lv_at hl 0 rfl) ?_
    refine gC_11_position (pc := 6) fx hw kw_187 d_I_splitLetters_6 ?_
    refine lv_aload_n (pc := 9) hx hb d_I_splitLetters_9 rfl (lv_at hl 0 rfl) ?_
    refine gC_11_length (pc := 10) fx hw kw_182 d_I_splitLetters_10 ?_
    refine lv_icmp_ge (pc := 13) (tgt := 44) hx hb d_I_splitLetters_13 (by decide) (fun c9 => ?_) (fun c9 => ?_)
    · replace h := h.1 c9
      exact c_I_splitLetters_44  fx HR h hw (lv_sub hl [0, 1, 2] rfl)
    · replace h := h.2 c9
      refine lv_aload_n (pc := 16) hx hb d_I_splitLetters_16 rfl (lv_at hl 0 rfl) ?_
      refine gC_11_text (pc := 17) fx hw kw_180 d_I_splitLetters_17 ?_
      refine lv_aload_n (pc := 20) hx hb d_I_splitLetters_20 rfl (lv_at hl 0 rfl) ?_
      refine gC_11_position (pc := 21) fx hw kw_187 d_I_splitLetters_21 ?_
      refine alC_12 (pc := 24) fx hw h.1 d_I_splitLetters_24 ?_
      replace h := h.2
      refine rsI (pc := 25) hw (rnS (pc := 25) xtC fx hw (c_I_goesOn h _) cw_I_45 rfl ⟨Nat.le_of_ble_eq_true rfl, Nat.le_of_ble_eq_true rfl⟩ hl.1 (Nat.le_of_ble_eq_true rfl) d_I_splitLetters_25 ⟨Nat.zero_le _, Nat.zero_le _⟩) (fun r_10 σ_9 H locs hw h => ?_)
      have zr_10 := h.1
      replace h := h.2
      refine lv_if_eq (pc := 28) (tgt := 44) hx hb d_I_splitLetters_28 (by decide) (fun c9 => ?_) (fun c9 => ?_)
      · replace h := h.1 c9
        exact c_I_splitLetters_44  fx HR h hw (lv_sub hl [0, 1, 2] rfl)
      · replace h := h.2 c9
        refine lv_aload_n (pc := 31) hx hb d_I_splitLetters_31 rfl (lv_at hl 0 rfl) ?_
        refine lv_dup (pc := 32) hx hb d_I_splitLetters_32 rfl ?_
        refine gC_11_position (pc := 33) fx hw kw_187 d_I_splitLetters_33 ?_
        refine lv_iconst (pc := 36) (v := 1) hx hb d_I_splitLetters_36 (by decide) ?_
        refine lv_iadd (pc := 37) hx hb d_I_splitLetters_37 ?_
        refine pC_11_position (pc := 38) fx hw kw_187 d_I_splitLetters_38 (fun σ_11 e9 H locs hw => ?_)
        replace h := nm_u h e9
        clear e9
        refine lv_goto (pc := 41) (tgt := 5) hx hb d_I_splitLetters_41 (by decide) ?_
        exact K5 h hw (lv_sub hl [0, 1, 2] rfl)
set_option maxHeartbeats 4000000 in
set_option maxRecDepth 100000 in
theorem e_I_splitLetters (fx : CallFix p m c b_I_splitLetters 3 s args GW RNI) {post : SS → Prop} (HR : RetV p l e r_I_splitLetters s m args below meth c Q D vcl (tyl cA) (wC cA a) (XC ad) A b_I_splitLetters post) {σ : SS} {x1 : Int32} {H : Heap} {locs : List Loc} {ls : Array Slot} (h : f_I_splitLetters post σ x1) (hw : CX D vcl (tyl cA) (wC cA a σ) (XC ad) A s H locs) (hl : lv_has ls 3 [(0, .ref (a 11)), (1, .int x1)]) : W p l e r_I_splitLetters s m args below meth c H locs 0 0 Q (F0 m 0 ls []) := by
  have hx := fx.1
  have hb := fx.2.1
  unfold f_I_splitLetters at h
  refine lv_aload_n (pc := 0) hx hb d_I_splitLetters_0 rfl (lv_at hl 0 rfl) ?_
  refine gC_11_position (pc := 1) fx hw kw_187 d_I_splitLetters_1 ?_
  refine lv_topi (fun x2_12 e9 => ?_)
  replace h := nm_u h e9
  clear e9
  refine lv_istore_n (pc := 4) (lv' := [(2, .int x2_12), (0, .ref (a 11)), (1, .int x1)]) hx hb d_I_splitLetters_4 rfl hl (by decide) rfl (fun ls hl => ?_)
  obtain ⟨n9, h⟩ := h
  exact c_I_splitLetters_5  fx HR n9 h hw (lv_sub hl [1, 2, 0] rfl)
end
theorem c_I_splitLetters {l : Launch} {D : va_G} {cA : Nat → ClassId} {a : Nat → Nat} {ad : Nat → Nat → Nat} {σ : SS} {post : SS → Prop} {x1 : Int32} (h : f_I_splitLetters post σ x1) : mV l y_I_splitLetters b_I_splitLetters 3 none 2 49 D vcl (tyl cA) (wC cA a) (XC ad) σ [.ref (a 11), .int x1] post := met_V (by decide) (Nat.le_of_ble_eq_true rfl) (fun p e s m args below meth c A Q fx HR H ls hw hl => e_I_splitLetters  fx HR h hw hl)
abbrev r_I_splitNext : Room := { frames := 4, cells := 0, slots := 0, locals := 91 }
def f_I_splitNext_90 (post : SS → Prop) (σ : SS) (s0 : Int64) : Prop := f_I_add (fun σ_1 => post σ_1) σ s0
def f_I_splitNext (post : SS → Prop) (σ : SS) : Prop := vp_in (σ.1 36) 6000 ∧ nm (σ.2.1 12 (σ.1 36).toNatClampNeg) fun x1_3 => f_I_goesOn (fun r_5 σ_4 => br (r_5 = 0) (nm (sI σ_4 36 ((σ_4.1 36) + 1)) fun σ_6 => br (x1_3 = 10) (f_I_add (fun σ_11 => post σ_11) σ_6 10) (br (x1_3 = 59) (f_I_skipLine (fun σ_9 => post σ_9) σ_6) (br (x1_3 = 32) (post σ_6) (br (x1_3 = 9) (post σ_6) (f_JStr_indexOf1 (fun r_8 σ_7 => br (r_8 < 0) (f_I_splitNext_90 post σ_7 1) (f_I_splitNext_90 post σ_7 (x1_3.toInt64))) σ_6 0 x1_3))))) (f_I_splitLetters (fun σ_13 => post σ_13) σ_4 x1_3)) σ x1_3
section
variable {p : Program} {l : Launch} {e : Env} {s : State} {m : MethodId} {args : Array Value} {below : List Frame} {meth : Method} {c : Code} {Q : State → Prop} {D : va_G} {cA : Nat → ClassId} {a : Nat → Nat} {ad : Nat → Nat → Nat} {A : Nat → Prop}
set_option maxHeartbeats 4000000 in
set_option maxRecDepth 100000 in
theorem c_I_splitNext_90 (fx : CallFix p m c b_I_splitNext 2 s args GW RNI) {post : SS → Prop} (HR : RetV p l e r_I_splitNext s m args below meth c Q D vcl (tyl cA) (wC cA a) (XC ad) A b_I_splitNext post) {σ : SS} {s0 : Int64} {H : Heap} {locs : List Loc} {ls : Array Slot} (h : f_I_splitNext_90 post σ s0) (hw : CX D vcl (tyl cA) (wC cA a σ) (XC ad) A s H locs) (hl : lv_has ls 2 []) : W p l e r_I_splitNext s m args below meth c H locs 0 0 Q (F0 m 90 ls [.long s0, .ref (a 11)]) := by
  have hx := fx.1
  have hb := fx.2.1
  unfold f_I_splitNext_90 at h
  refine rsV (pc := 90) hw (rnV (pc := 90) xtC fx hw (c_I_add h _) cw_I_41 (rcC_11 hw) rfl ⟨Nat.le_of_ble_eq_true rfl, Nat.le_of_ble_eq_true rfl⟩ hl.1 (Nat.le_of_ble_eq_true rfl) d_I_splitNext_90 ⟨Nat.zero_le _, Nat.zero_le _⟩) (fun σ_1 H locs hw h => ?_)
  exact HR d_I_splitNext_93 h hw
set_option maxHeartbeats 4000000 in
set_option maxRecDepth 100000 in
theorem e_I_splitNext (fx : CallFix p m c b_I_splitNext 2 s args GW RNI) {post : SS → Prop} (HR : RetV p l e r_I_splitNext s m args below meth c Q D vcl (tyl cA) (wC cA a) (XC ad) A b_I_splitNext post) {σ : SS} {H : Heap} {locs : List Loc} {ls : Array Slot} (h : f_I_splitNext post σ) (hw : CX D vcl (tyl cA) (wC cA a σ) (XC ad) A s H locs) (hl : lv_has ls 2 [(0, .ref (a 11))]) : W p l e r_I_splitNext s m args below meth c H locs 0 0 Q (F0 m 0 ls []) := by
  have hx := fx.1
  have hb := fx.2.1
  unfold f_I_splitNext at h
  refine lv_aload_n (pc := 0) hx hb d_I_splitNext_0 rfl (lv_at hl 0 rfl) ?_
  refine gC_11_text (pc := 1) fx hw kw_180 d_I_splitNext_1 ?_
  refine lv_aload_n (pc := 4) hx hb d_I_splitNext_4 rfl (lv_at hl 0 rfl) ?_
  refine gC_11_position (pc := 5) fx hw kw_187 d_I_splitNext_5 ?_
  refine alC_12 (pc := 8) fx hw h.1 d_I_splitNext_8 ?_
  replace h := h.2
  refine lv_topi (fun x1_3 e9 => ?_)
  replace h := nm_u h e9
  clear e9
  refine lv_istore_n (pc := 9) (lv' := [(1, .int x1_3), (0, .ref (a 11))]) hx hb d_I_splitNext_9 rfl hl (by decide) rfl (fun ls hl => ?_)
  refine lv_iload_n (pc := 10) hx hb d_I_splitNext_10 rfl (lv_at hl 0 rfl) ?_
  refine rsI (pc := 11) hw (rnS (pc := 11) xtC fx hw (c_I_goesOn h _) cw_I_45 rfl ⟨Nat.le_of_ble_eq_true rfl, Nat.le_of_ble_eq_true rfl⟩ hl.1 (Nat.le_of_ble_eq_true rfl) d_I_splitNext_11 ⟨Nat.zero_le _, Nat.zero_le _⟩) (fun r_5 σ_4 H locs hw h => ?_)
  have zr_5 := h.1
  replace h := h.2
  refine lv_if_eq (pc := 14) (tgt := 23) hx hb d_I_splitNext_14 (by decide) (fun c9 => ?_) (fun c9 => ?_)
  · replace h := h.1 c9
    refine lv_aload_n (pc := 23) hx hb d_I_splitNext_23 rfl (lv_at hl 1 rfl) ?_
    refine lv_dup (pc := 24) hx hb d_I_splitNext_24 rfl ?_
    refine gC_11_position (pc := 25) fx hw kw_187 d_I_splitNext_25 ?_
    refine lv_iconst (pc := 28) (v := 1) hx hb d_I_splitNext_28 (by decide) ?_
    refine lv_iadd (pc := 29) hx hb d_I_splitNext_29 ?_
    refine pC_11_position (pc := 30) fx hw kw_187 d_I_splitNext_30 (fun σ_6 e9 H locs hw => ?_)
    replace h := nm_u h e9
    clear e9
    refine lv_iload_n (pc := 33) hx hb d_I_splitNext_33 rfl (lv_at hl 0 rfl) ?_
    refine lv_bipush (pc := 34) (v := 10) hx hb d_I_splitNext_34 (by decide) ?_
    refine lv_icmp_ne (pc := 36) (tgt := 49) hx hb d_I_splitNext_36 (by decide) (fun c9 => ?_) (fun c9 => ?_)
    · replace h := h.2 c9
      refine lv_iload_n (pc := 49) hx hb d_I_splitNext_49 rfl (lv_at hl 0 rfl) ?_
      refine lv_bipush (pc := 50) (v := 59) hx hb d_I_splitNext_50 (by decide) ?_
      refine lv_icmp_ne (pc := 52) (tgt := 62) hx hb d_I_splitNext_52 (by decide) (fun c9 => ?_) (fun c9 => ?_)
      · replace h := h.2 c9
        refine lv_iload_n (pc := 62) hx hb d_I_splitNext_62 rfl (lv_at hl 0 rfl) ?_
        refine lv_bipush (pc := 63) (v := 32) hx hb d_I_splitNext_63 (by decide) ?_
        refine lv_icmp_eq (pc := 65) (tgt := 93) hx hb d_I_splitNext_65 (by decide) (fun c9 => ?_) (fun c9 => ?_)
        · replace h := h.1 c9
          exact HR d_I_splitNext_93 h hw
        · replace h := h.2 c9
          refine lv_iload_n (pc := 68) hx hb d_I_splitNext_68 rfl (lv_at hl 0 rfl) ?_
          refine lv_bipush (pc := 69) (v := 9) hx hb d_I_splitNext_69 (by decide) ?_
          refine lv_icmp_eq (pc := 71) (tgt := 93) hx hb d_I_splitNext_71 (by decide) (fun c9 => ?_) (fun c9 => ?_)
          · replace h := h.1 c9
            exact HR d_I_splitNext_93 h hw
          · replace h := h.2 c9
            refine lv_aload_n (pc := 74) hx hb d_I_splitNext_74 rfl (lv_at hl 1 rfl) ?_
            refine ldK (pc := 75) (tx := "+-,@#:") (j := 0) fx hw (by decide +kernel) d_I_splitNext_75 ?_
            refine lv_iload_n (pc := 77) hx hb d_I_splitNext_77 rfl (lv_at hl 0 rfl) ?_
            refine rsI (pc := 78) hw (rnV (pc := 78) xtC fx hw (c_JStr_indexOf1 h _) cw_I_58 (rcK hw (by decide)) rfl ⟨Nat.le_of_ble_eq_true rfl, Nat.le_of_ble_eq_true rfl⟩ hl.1 (Nat.le_of_ble_eq_true rfl) d_I_splitNext_78 ⟨Nat.zero_le _, Nat.zero_le _⟩) (fun r_8 σ_7 H locs hw h => ?_)
            refine lv_if_lt (pc := 81) (tgt := 89) hx hb d_I_splitNext_81 (by decide) (fun c9 => ?_) (fun c9 => ?_)
            · replace h := h.1 c9
              refine lv_lconst (pc := 89) (v := 1) hx hb d_I_splitNext_89 (by decide) ?_
              exact c_I_splitNext_90  fx HR h hw (lv_sub hl [] rfl)
            · replace h := h.2 c9
              refine lv_iload_n (pc := 84) hx hb d_I_splitNext_84 rfl (lv_at hl 0 rfl) ?_
              refine lv_i2l (pc := 85) hx hb d_I_splitNext_85 rfl ?_
              refine lv_goto (pc := 86) (tgt := 90) hx hb d_I_splitNext_86 (by decide) ?_
              exact c_I_splitNext_90  fx HR h hw (lv_sub hl [] rfl)
      · replace h := h.1 c9
        refine lv_aload_n (pc := 55) hx hb d_I_splitNext_55 rfl (lv_at hl 1 rfl) ?_
        refine rsV (pc := 56) hw (rnV (pc := 56) xtC fx hw (c_I_skipLine h _) cw_I_53 (rcC_11 hw) rfl ⟨Nat.le_of_ble_eq_true rfl, Nat.le_of_ble_eq_true rfl⟩ hl.1 (Nat.le_of_ble_eq_true rfl) d_I_splitNext_56 ⟨Nat.zero_le _, Nat.zero_le _⟩) (fun σ_9 H locs hw h => ?_)
        refine lv_goto (pc := 59) (tgt := 93) hx hb d_I_splitNext_59 (by decide) ?_
        exact HR d_I_splitNext_93 h hw
    · replace h := h.1 c9
      refine lv_aload_n (pc := 39) hx hb d_I_splitNext_39 rfl (lv_at hl 1 rfl) ?_
      refine lv_ldc2 (pc := 40) (v := 10) hx hb fx.2.2.2.1 (fx.2.2.2.2 _ kw_392) d_I_splitNext_40 ?_
      refine rsV (pc := 43) hw (rnV (pc := 43) xtC fx hw (c_I_add h _) cw_I_41 (rcC_11 hw) rfl ⟨Nat.le_of_ble_eq_true rfl, Nat.le_of_ble_eq_true rfl⟩ hl.1 (Nat.le_of_ble_eq_true rfl) d_I_splitNext_43 ⟨Nat.zero_le _, Nat.zero_le _⟩) (fun σ_11 H locs hw h => ?_)
      refine lv_goto (pc := 46) (tgt := 93) hx hb d_I_splitNext_46 (by decide) ?_
      exact HR d_I_splitNext_93 h hw
  · replace h := h.2 c9
    refine lv_aload_n (pc := 17) hx hb d_I_splitNext_17 rfl (lv_at hl 1 rfl) ?_
    refine lv_iload_n (pc := 18) hx hb d_I_splitNext_18 rfl (lv_at hl 0 rfl) ?_
    refine rsV (pc := 19) hw (rnV (pc := 19) xtC fx hw (c_I_splitLetters h _) cw_I_49 (rcC_11 hw) rfl ⟨Nat.le_of_ble_eq_true rfl, Nat.le_of_ble_eq_true rfl⟩ hl.1 (Nat.le_of_ble_eq_true rfl) d_I_splitNext_19 ⟨Nat.zero_le _, Nat.zero_le _⟩) (fun σ_13 H locs hw h => ?_)
    exact HR d_I_splitNext_22 h hw
end
theorem c_I_splitNext {l : Launch} {D : va_G} {cA : Nat → ClassId} {a : Nat → Nat} {ad : Nat → Nat → Nat} {σ : SS} {post : SS → Prop} (h : f_I_splitNext post σ) : mV l y_I_splitNext b_I_splitNext 2 none 4 91 D vcl (tyl cA) (wC cA a) (XC ad) σ [.ref (a 11)] post := met_V (by decide) (Nat.le_of_ble_eq_true rfl) (fun p e s m args below meth c A Q fx HR H ls hw hl => e_I_splitNext  fx HR h hw hl)
abbrev r_I_split : Room := { frames := 5, cells := 0, slots := 0, locals := 112 }
def f_I_split_40 (post : SS → Prop) (σ : SS) : Prop := f_I_add (fun σ_1 => post σ_1) σ 10
def f_I_split_12 (post : SS → Prop) : Nat → SS → Int32 → Prop
  | 0, _, _ => False
  | n + 1, σ, x1 => br (6000 ≤ x1) (f_I_split_40 post σ) (br ((σ.1 34) ≤ (σ.1 36)) (f_I_split_40 post σ) (f_I_splitNext (fun σ_3 => nm (x1 + 1) fun x1_5 => f_I_split_12 post n σ_3 x1_5) σ))
def f_I_split (post : SS → Prop) (σ : SS) : Prop := nm (sI σ 35 0) fun σ_6 => nm (sI σ_6 36 0) fun σ_7 => ∃ n9, f_I_split_12 post n9 σ_7 0
section
variable {p : Program} {l : Launch} {e : Env} {s : State} {m : MethodId} {args : Array Value} {below : List Frame} {meth : Method} {c : Code} {Q : State → Prop} {D : va_G} {cA : Nat → ClassId} {a : Nat → Nat} {ad : Nat → Nat → Nat} {A : Nat → Prop}
set_option maxHeartbeats 4000000 in
set_option maxRecDepth 100000 in
theorem c_I_split_40 (fx : CallFix p m c b_I_split 2 s args GW RNI) {post : SS → Prop} (HR : RetV p l e r_I_split s m args below meth c Q D vcl (tyl cA) (wC cA a) (XC ad) A b_I_split post) {σ : SS} {H : Heap} {locs : List Loc} {ls : Array Slot} (h : f_I_split_40 post σ) (hw : CX D vcl (tyl cA) (wC cA a σ) (XC ad) A s H locs) (hl : lv_has ls 2 [(0, .ref (a 11))]) : W p l e r_I_split s m args below meth c H locs 0 0 Q (F0 m 40 ls []) := by
  have hx := fx.1
  have hb := fx.2.1
  unfold f_I_split_40 at h
  refine lv_aload_n (pc := 40) hx hb d_I_split_40 rfl (lv_at hl 0 rfl) ?_
  refine lv_ldc2 (pc := 41) (v := 10) hx hb fx.2.2.2.1 (fx.2.2.2.2 _ kw_392) d_I_split_41 ?_
  refine rsV (pc := 44) hw (rnV (pc := 44) xtC fx hw (c_I_add h _) cw_I_41 (rcC_11 hw) rfl ⟨Nat.le_of_ble_eq_true rfl, Nat.le_of_ble_eq_true rfl⟩ hl.1 (Nat.le_of_ble_eq_true rfl) d_I_split_44 ⟨Nat.zero_le _, Nat.zero_le _⟩) (fun σ_1 H locs hw h => ?_)
  exact HR d_I_split_47 h hw
set_option maxHeartbeats 4000000 in
set_option maxRecDepth 100000 in
theorem c_I_split_12 (fx : CallFix p m c b_I_split 2 s args GW RNI) {post : SS → Prop} (HR : RetV p l e r_I_split s m args below meth c Q D vcl (tyl cA) (wC cA a) (XC ad) A b_I_split post) : ∀ (n : Nat) {σ : SS} {x1 : Int32} {H : Heap} {locs : List Loc} {ls : Array Slot}, f_I_split_12 post n σ x1 → CX D vcl (tyl cA) (wC cA a σ) (XC ad) A s H locs → lv_has ls 2 [(0, .ref (a 11)), (1, .int x1)] → W p l e r_I_split s m args below meth c H locs 0 0 Q (F0 m 12 ls []) := by
  have hx := fx.1
  have hb := fx.2.1
  intro n
  induction n with
  | zero => intro σ x1 H locs ls h; exact h.elim
  | succ n ih =>
    intro σ x1 H locs ls h hw hl
    have K12 := @ih
    unfold f_I_split_12 at h
    refine lv_iload_n (pc := 12) hx hb d_I_split_12 rfl (lv_at hl 1 rfl) ?_
    refine lv_sipush (pc := 13) (v := 6000) hx hb d_I_split_13 (by decide) ?_
    refine lv_icmp_ge (pc := 16) (tgt := 40) hx hb d_I_split_16 (by decide) (fun c9 => ?_) (fun c9 => ?_)
    · replace h := h.1 c9
      exact c_I_split_40  fx HR h hw (lv_sub hl [0] rfl)
    · replace h := h.2 c9
      refine lv_aload_n (pc := 19) hx hb d_I_split_19 rfl (lv_at hl 0 rfl) ?_
      refine gC_11_position (pc := 20) fx hw kw_187 d_I_split_20 ?_
      refine lv_aload_n (pc := 23) hx hb d_I_split_23 rfl (lv_at hl 0 rfl) ?_
      refine gC_11_length (pc := 24) fx hw kw_182 d_I_split_24 ?_
      refine lv_icmp_ge (pc := 27) (tgt := 40) hx hb d_I_split_27 (by decide) (fun c9 => ?_) (fun c9 => ?_)
      · replace h := h.1 c9
        exact c_I_split_40  fx HR h hw (lv_sub hl [0] rfl)
      · replace h := h.2 c9
        refine lv_aload_n (pc := 30) hx hb d_I_split_30 rfl (lv_at hl 0 rfl) ?_
        refine rsV (pc := 31) hw (rnV (pc := 31) xtC fx hw (c_I_splitNext h _) cw_I_36 (rcC_11 hw) rfl ⟨Nat.le_of_ble_eq_true rfl, Nat.le_of_ble_eq_true rfl⟩ hl.1 (Nat.le_of_ble_eq_true rfl) d_I_split_31 ⟨Nat.zero_le _, Nat.zero_le _⟩) (fun σ_3 H locs hw h => ?_)
        obtain ⟨x1_5, e9⟩ : ∃ z : Int32, z = x1 + 1 := ⟨_, rfl⟩
        replace h := nm_u h e9
        refine lv_iinc (pc := 34) (v := x1_5) (lv' := [(1, .int x1_5), (0, .ref (a 11))]) hx hb d_I_split_34 hl (k := 1) rfl (by rw [e9]; rfl) (by decide) rfl (fun ls hl => ?_)
        clear e9
        refine lv_goto (pc := 37) (tgt := 12) hx hb d_I_split_37 (by decide) ?_
        exact K12 h hw (lv_sub hl [1, 0] rfl)
set_option maxHeartbeats 4000000 in
set_option maxRecDepth 100000 in
theorem e_I_split (fx : CallFix p m c b_I_split 2 s args GW RNI) {post : SS → Prop} (HR : RetV p l e r_I_split s m args below meth c Q D vcl (tyl cA) (wC cA a) (XC ad) A b_I_split post) {σ : SS} {H : Heap} {locs : List Loc} {ls : Array Slot} (h : f_I_split post σ) (hw : CX D vcl (tyl cA) (wC cA a σ) (XC ad) A s H locs) (hl : lv_has ls 2 [(0, .ref (a 11))]) : W p l e r_I_split s m args below meth c H locs 0 0 Q (F0 m 0 ls []) := by
  have hx := fx.1
  have hb := fx.2.1
  unfold f_I_split at h
  refine lv_aload_n (pc := 0) hx hb d_I_split_0 rfl (lv_at hl 0 rfl) ?_
  refine lv_iconst (pc := 1) (v := 0) hx hb d_I_split_1 (by decide) ?_
  refine pC_11_count (pc := 2) fx hw kw_185 d_I_split_2 (fun σ_6 e9 H locs hw => ?_)
  replace h := nm_u h e9
  clear e9
  refine lv_aload_n (pc := 5) hx hb d_I_split_5 rfl (lv_at hl 0 rfl) ?_
  refine lv_iconst (pc := 6) (v := 0) hx hb d_I_split_6 (by decide) ?_
  refine pC_11_position (pc := 7) fx hw kw_187 d_I_split_7 (fun σ_7 e9 H locs hw => ?_)
  replace h := nm_u h e9
  clear e9
  refine lv_iconst (pc := 10) (v := 0) hx hb d_I_split_10 (by decide) ?_
  refine lv_istore_n (pc := 11) (lv' := [(1, .int 0), (0, .ref (a 11))]) hx hb d_I_split_11 rfl hl (by decide) rfl (fun ls hl => ?_)
  obtain ⟨n9, h⟩ := h
  exact c_I_split_12  fx HR n9 h hw (lv_sub hl [1, 0] rfl)
end
theorem c_I_split {l : Launch} {D : va_G} {cA : Nat → ClassId} {a : Nat → Nat} {ad : Nat → Nat → Nat} {σ : SS} {post : SS → Prop} (h : f_I_split post σ) : mV l y_I_split b_I_split 2 none 5 112 D vcl (tyl cA) (wC cA a) (XC ad) σ [.ref (a 11)] post := met_V (by decide) (Nat.le_of_ble_eq_true rfl) (fun p e s m args below meth c A Q fx HR H ls hw hl => e_I_split  fx HR h hw hl)
abbrev r_T_clear : Room := { frames := 0, cells := 0, slots := 0, locals := 0 }
def f_T_clear (post : SS → Prop) (σ : SS) : Prop := nm (sI σ 39 0) fun σ_1 => post σ_1
section
variable {p : Program} {l : Launch} {e : Env} {s : State} {m : MethodId} {args : Array Value} {below : List Frame} {meth : Method} {c : Code} {Q : State → Prop} {D : va_G} {cA : Nat → ClassId} {a : Nat → Nat} {ad : Nat → Nat → Nat} {A : Nat → Prop}
set_option maxHeartbeats 4000000 in
set_option maxRecDepth 100000 in
theorem e_T_clear (fx : CallFix p m c b_T_clear 1 s args GW RNT) {post : SS → Prop} (HR : RetV p l e r_T_clear s m args below meth c Q D vcl (tyl cA) (wC cA a) (XC ad) A b_T_clear post) {σ : SS} {H : Heap} {locs : List Loc} {ls : Array Slot} (h : f_T_clear post σ) (hw : CX D vcl (tyl cA) (wC cA a σ) (XC ad) A s H locs) (hl : lv_has ls 1 [(0, .ref (a 23))]) : W p l e r_T_clear s m args below meth c H locs 0 0 Q (F0 m 0 ls []) := by
  have hx := fx.1
  have hb := fx.2.1
  unfold f_T_clear at h
  refine lv_aload_n (pc := 0) hx hb d_T_clear_0 rfl (lv_at hl 0 rfl) ?_
  refine lv_iconst (pc := 1) (v := 0) hx hb d_T_clear_1 (by decide) ?_
  refine pC_23_length (pc := 2) fx hw kw_270 d_T_clear_2 (fun σ_1 e9 H locs hw => ?_)
  replace h := nm_u h e9
  clear e9
  exact HR d_T_clear_5 h hw
end
theorem c_T_clear {l : Launch} {D : va_G} {cA : Nat → ClassId} {a : Nat → Nat} {ad : Nat → Nat → Nat} {σ : SS} {post : SS → Prop} (h : f_T_clear post σ) : mV l y_T_clear b_T_clear 1 none 0 0 D vcl (tyl cA) (wC cA a) (XC ad) σ [.ref (a 23)] post := met_V (by decide) (Nat.le_of_ble_eq_true rfl) (fun p e s m args below meth c A Q fx HR H ls hw hl => e_T_clear  fx HR h hw hl)
abbrev r_T_characterAt : Room := { frames := 0, cells := 0, slots := 0, locals := 0 }
def f_T_characterAt (post : Int32 → SS → Prop) (σ : SS) (x1 : Int32) : Prop := br (x1 < 0) (post (-1) σ) (br ((σ.1 39) ≤ x1) (post (-1) σ) (vp_in x1 32 ∧ post (σ.2.1 24 x1.toNatClampNeg) σ))
section
variable {p : Program} {l : Launch} {e : Env} {s : State} {m : MethodId} {args : Array Value} {below : List Frame} {meth : Method} {c : Code} {Q : State → Prop} {D : va_G} {cA : Nat → ClassId} {a : Nat → Nat} {ad : Nat → Nat → Nat} {A : Nat → Prop}
set_option maxHeartbeats 4000000 in
set_option maxRecDepth 100000 in
theorem e_T_characterAt (fx : CallFix p m c b_T_characterAt 2 s args GW RNT) {post : Int32 → SS → Prop} (HR : RetI p l e r_T_characterAt s m args below meth c Q D vcl (tyl cA) (wC cA a) (XC ad) A b_T_characterAt .int post) {σ : SS} {x1 : Int32} {H : Heap} {locs : List Loc} {ls : Array Slot} (h : f_T_characterAt post σ x1) (hw : CX D vcl (tyl cA) (wC cA a σ) (XC ad) A s H locs) (hl : lv_has ls 2 [(0, .ref (a 23)), (1, .int x1)]) : W p l e r_T_characterAt s m args below meth c H locs 0 0 Q (F0 m 0 ls []) := by
  have hx := fx.1
  have hb := fx.2.1
  unfold f_T_characterAt at h
  refine lv_iload_n (pc := 0) hx hb d_T_characterAt_0 rfl (lv_at hl 1 rfl) ?_
  refine lv_if_lt (pc := 1) (tgt := 21) hx hb d_T_characterAt_1 (by decide) (fun c9 => ?_) (fun c9 => ?_)
  · replace h := h.1 c9
    refine lv_iconst (pc := 21) (v := (-1)) hx hb d_T_characterAt_21 (by decide) ?_
    exact HR rfl d_T_characterAt_22 h hw
  · replace h := h.2 c9
    refine lv_iload_n (pc := 4) hx hb d_T_characterAt_4 rfl (lv_at hl 1 rfl) ?_
    refine lv_aload_n (pc := 5) hx hb d_T_characterAt_5 rfl (lv_at hl 0 rfl) ?_
    refine gC_23_length (pc := 6) fx hw kw_270 d_T_characterAt_6 ?_
    refine lv_icmp_ge (pc := 9) (tgt := 21) hx hb d_T_characterAt_9 (by decide) (fun c9 => ?_) (fun c9 => ?_)
    · replace h := h.1 c9
      refine lv_iconst (pc := 21) (v := (-1)) hx hb d_T_characterAt_21 (by decide) ?_
      exact HR rfl d_T_characterAt_22 h hw
    · replace h := h.2 c9
      refine lv_aload_n (pc := 12) hx hb d_T_characterAt_12 rfl (lv_at hl 0 rfl) ?_
      refine gC_23_characters (pc := 13) fx hw kw_269 d_T_characterAt_13 ?_
      refine lv_iload_n (pc := 16) hx hb d_T_characterAt_16 rfl (lv_at hl 1 rfl) ?_
      refine alC_24 (pc := 17) fx hw h.1 d_T_characterAt_17 ?_
      replace h := h.2
      refine lv_goto (pc := 18) (tgt := 22) hx hb d_T_characterAt_18 (by decide) ?_
      exact HR rfl d_T_characterAt_22 h hw
end
theorem c_T_characterAt {l : Launch} {D : va_G} {cA : Nat → ClassId} {a : Nat → Nat} {ad : Nat → Nat → Nat} {σ : SS} {post : Int32 → SS → Prop} {x1 : Int32} (h : f_T_characterAt post σ x1) : mI l y_T_characterAt b_T_characterAt 2 (some .int) 0 0 D vcl (tyl cA) (wC cA a) (XC ad) σ [.ref (a 23), .int x1] post := met_I (by decide) (Nat.le_of_ble_eq_true rfl) (fun p e s m args below meth c A Q fx HR H ls hw hl => e_T_characterAt  fx HR h hw hl)
abbrev r_T_write : Room := { frames := 0, cells := 0, slots := 0, locals := 0 }
def f_T_write (post : SS → Prop) (σ : SS) (x1 : Int32) : Prop := br (32 ≤ (σ.1 39)) (post σ) (vp_in (σ.1 39) 32 ∧ nm (sA σ 24 (σ.1 39).toNatClampNeg (vp_nar .char x1)) fun σ_1 => nm (sI σ_1 39 ((σ_1.1 39) + 1)) fun σ_2 => post σ_2)
section
variable {p : Program} {l : Launch} {e : Env} {s : State} {m : MethodId} {args : Array Value} {below : List Frame} {meth : Method} {c : Code} {Q : State → Prop} {D : va_G} {cA : Nat → ClassId} {a : Nat → Nat} {ad : Nat → Nat → Nat} {A : Nat → Prop}
set_option maxHeartbeats 4000000 in
set_option maxRecDepth 100000 in
theorem e_T_write (fx : CallFix p m c b_T_write 2 s args GW RNT) {post : SS → Prop} (HR : RetV p l e r_T_write s m args below meth c Q D vcl (tyl cA) (wC cA a) (XC ad) A b_T_write post) {σ : SS} {x1 : Int32} {H : Heap} {locs : List Loc} {ls : Array Slot} (h : f_T_write post σ x1) (hw : CX D vcl (tyl cA) (wC cA a σ) (XC ad) A s H locs) (hl : lv_has ls 2 [(0, .ref (a 23)), (1, .int x1)]) : W p l e r_T_write s m args below meth c H locs 0 0 Q (F0 m 0 ls []) := by
  have hx := fx.1
  have hb := fx.2.1
  unfold f_T_write at h
  refine lv_aload_n (pc := 0) hx hb d_T_write_0 rfl (lv_at hl 0 rfl) ?_
  refine gC_23_length (pc := 1) fx hw kw_270 d_T_write_1 ?_
  refine lv_bipush (pc := 4) (v := 32) hx hb d_T_write_4 (by decide) ?_
  refine lv_icmp_ge (pc := 6) (tgt := 29) hx hb d_T_write_6 (by decide) (fun c9 => ?_) (fun c9 => ?_)
  · replace h := h.1 c9
    exact HR d_T_write_29 h hw
  · replace h := h.2 c9
    refine lv_aload_n (pc := 9) hx hb d_T_write_9 rfl (lv_at hl 0 rfl) ?_
    refine gC_23_characters (pc := 10) fx hw kw_269 d_T_write_10 ?_
    refine lv_aload_n (pc := 13) hx hb d_T_write_13 rfl (lv_at hl 0 rfl) ?_
    refine gC_23_length (pc := 14) fx hw kw_270 d_T_write_14 ?_
    refine lv_iload_n (pc := 17) hx hb d_T_write_17 rfl (lv_at hl 1 rfl) ?_
    refine asC_24 (pc := 18) fx hw h.1 d_T_write_18 (fun σ_1 e9 H locs hw => ?_)
    replace h := nm_u h.2 e9
    clear e9
    refine lv_aload_n (pc := 19) hx hb d_T_write_19 rfl (lv_at hl 0 rfl) ?_
    refine lv_dup (pc := 20) hx hb d_T_write_20 rfl ?_
    refine gC_23_length (pc := 21) fx hw kw_270 d_T_write_21 ?_
    refine lv_iconst (pc := 24) (v := 1) hx hb d_T_write_24 (by decide) ?_
    refine lv_iadd (pc := 25) hx hb d_T_write_25 ?_
    refine pC_23_length (pc := 26) fx hw kw_270 d_T_write_26 (fun σ_2 e9 H locs hw => ?_)
    replace h := nm_u h e9
    clear e9
    exact HR d_T_write_29 h hw
end
theorem c_T_write {l : Launch} {D : va_G} {cA : Nat → ClassId} {a : Nat → Nat} {ad : Nat → Nat → Nat} {σ : SS} {post : SS → Prop} {x1 : Int32} (h : f_T_write post σ x1) : mV l y_T_write b_T_write 2 none 0 0 D vcl (tyl cA) (wC cA a) (XC ad) σ [.ref (a 23), .int x1] post := met_V (by decide) (Nat.le_of_ble_eq_true rfl) (fun p e s m args below meth c A Q fx HR H ls hw hl => e_T_write  fx HR h hw hl)
abbrev r_T_writeNumber : Room := { frames := 1, cells := 0, slots := 0, locals := 21 }
def f_T_writeNumber_31 (post : SS → Prop) (k3 : SS → Int32 → Int32 → Prop) (σ : SS) (x1 : Int32) (x2 : Int32) : Prop := nm (x2 + (-3)) fun x2_1 => k3 σ x1 x2_1
def f_T_writeNumber_17 (post : SS → Prop) (k3 : SS → Int32 → Int32 → Prop) (σ : SS) (x1 : Int32) (x2 : Int32) : Prop := f_T_write (fun σ_2 => f_T_writeNumber_31 post k3 σ_2 x1 x2) σ (((48 + ((x1 >>> (x2 &&& 31)) &&& 7)).toUInt32 % 65536).toInt32)
def f_T_writeNumber_3 (post : SS → Prop) : Nat → SS → Int32 → Int32 → Prop
  | 0, _, _, _ => False
  | n + 1, σ, x1, x2 => br (x2 < 0) (post σ) (br (x2 = 0) (f_T_writeNumber_17 post (f_T_writeNumber_3 post n) σ x1 x2) (br ((x1 >>> (x2 &&& 31)) = 0) (f_T_writeNumber_31 post (f_T_writeNumber_3 post n) σ x1 x2) (f_T_writeNumber_17 post (f_T_writeNumber_3 post n) σ x1 x2)))
def f_T_writeNumber (post : SS → Prop) (σ : SS) (x1 : Int32) : Prop := ∃ n9, f_T_writeNumber_3 post n9 σ x1 15
section
variable {p : Program} {l : Launch} {e : Env} {s : State} {m : MethodId} {args : Array Value} {below : List Frame} {meth : Method} {c : Code} {Q : State → Prop} {D : va_G} {cA : Nat → ClassId} {a : Nat → Nat} {ad : Nat → Nat → Nat} {A : Nat → Prop}
set_option maxHeartbeats 4000000 in
set_option maxRecDepth 100000 in
theorem c_T_writeNumber_31 (fx : CallFix p m c b_T_writeNumber 3 s args GW RNT) {post : SS → Prop} (HR : RetV p l e r_T_writeNumber s m args below meth c Q D vcl (tyl cA) (wC cA a) (XC ad) A b_T_writeNumber post) {k3 : SS → Int32 → Int32 → Prop} (K3 : ∀ {σ : SS} {x1 : Int32} {x2 : Int32} {H : Heap} {locs : List Loc} {ls : Array Slot}, k3 σ x1 x2 → CX D vcl (tyl cA) (wC cA a σ) (XC ad) A s H locs → lv_has ls 3 [(0, .ref (a 23)), (1, .int x1), (2, .int x2)] → W p l e r_T_writeNumber s m args below meth c H locs 0 0 Q (F0 m 3 ls [])) {σ : SS} {x1 : Int32} {x2 : Int32} {H : Heap} {locs : List Loc} {ls : Array Slot} (h : f_T_writeNumber_31 post k3 σ x1 x2) (hw : CX D vcl (tyl cA) (wC cA a σ) (XC ad) A s H locs) (hl : lv_has ls 3 [(0, .ref (a 23)), (1, .int x1), (2, .int x2)]) : W p l e r_T_writeNumber s m args below meth c H locs 0 0 Q (F0 m 31 ls []) := by
  have hx := fx.1
  have hb := fx.2.1
  unfold f_T_writeNumber_31 at h
  obtain ⟨x2_1, e9⟩ : ∃ z : Int32, z = x2 + (-3) := ⟨_, rfl⟩
  replace h := nm_u h e9
  refine lv_iinc (pc := 31) (v := x2_1) (lv' := [(2, .int x2_1), (0, .ref (a 23)), (1, .int x1)]) hx hb d_T_writeNumber_31 hl (k := 2) rfl (by rw [e9]; rfl) (by decide) rfl (fun ls hl => ?_)
  clear e9
  refine lv_goto (pc := 34) (tgt := 3) hx hb d_T_writeNumber_34 (by decide) ?_
  exact K3 h hw (lv_sub hl [1, 2, 0] rfl)
set_option maxHeartbeats 4000000 in
set_option maxRecDepth 100000 in
theorem c_T_writeNumber_17 (fx : CallFix p m c b_T_writeNumber 3 s args GW RNT) {post : SS → Prop} (HR : RetV p l e r_T_writeNumber s m args below meth c Q D vcl (tyl cA) (wC cA a) (XC ad) A b_T_writeNumber post) {k3 : SS → Int32 → Int32 → Prop} (K3 : ∀ {σ : SS} {x1 : Int32} {x2 : Int32} {H : Heap} {locs : List Loc} {ls : Array Slot}, k3 σ x1 x2 → CX D vcl (tyl cA) (wC cA a σ) (XC ad) A s H locs → lv_has ls 3 [(0, .ref (a 23)), (1, .int x1), (2, .int x2)] → W p l e r_T_writeNumber s m args below meth c H locs 0 0 Q (F0 m 3 ls [])) {σ : SS} {x1 : Int32} {x2 : Int32} {H : Heap} {locs : List Loc} {ls : Array Slot} (h : f_T_writeNumber_17 post k3 σ x1 x2) (hw : CX D vcl (tyl cA) (wC cA a σ) (XC ad) A s H locs) (hl : lv_has ls 3 [(0, .ref (a 23)), (1, .int x1), (2, .int x2)]) : W p l e r_T_writeNumber s m args below meth c H locs 0 0 Q (F0 m 17 ls []) := by
  have hx := fx.1
  have hb := fx.2.1
  unfold f_T_writeNumber_17 at h
  refine lv_aload_n (pc := 17) hx hb d_T_writeNumber_17 rfl (lv_at hl 0 rfl) ?_
  refine lv_bipush (pc := 18) (v := 48) hx hb d_T_writeNumber_18 (by decide) ?_
  refine lv_iload_n (pc := 20) hx hb d_T_writeNumber_20 rfl (lv_at hl 1 rfl) ?_
  refine lv_iload_n (pc := 21) hx hb d_T_writeNumber_21 rfl (lv_at hl 2 rfl) ?_
  refine lv_ishr (pc := 22) hx hb d_T_writeNumber_22 ?_
  refine lv_bipush (pc := 23) (v := 7) hx hb d_T_writeNumber_23 (by decide) ?_
  refine lv_iand (pc := 25) hx hb d_T_writeNumber_25 ?_
  refine lv_iadd (pc := 26) hx hb d_T_writeNumber_26 ?_
  refine lv_i2c (pc := 27) hx hb d_T_writeNumber_27 rfl ?_
  refine rsV (pc := 28) hw (rnV (pc := 28) xtC fx hw (c_T_write h _) cw_T_36 (rcC_23 hw) rfl ⟨Nat.le_of_ble_eq_true rfl, Nat.le_of_ble_eq_true rfl⟩ hl.1 (Nat.le_of_ble_eq_true rfl) d_T_writeNumber_28 ⟨Nat.zero_le _, Nat.zero_le _⟩) (fun σ_2 H locs hw h => ?_)
  exact c_T_writeNumber_31  fx HR K3 h hw (lv_sub hl [0, 1, 2] rfl)
set_option maxHeartbeats 4000000 in
set_option maxRecDepth 100000 in
theorem c_T_writeNumber_3 (fx : CallFix p m c b_T_writeNumber 3 s args GW RNT) {post : SS → Prop} (HR : RetV p l e r_T_writeNumber s m args below meth c Q D vcl (tyl cA) (wC cA a) (XC ad) A b_T_writeNumber post) : ∀ (n : Nat) {σ : SS} {x1 : Int32} {x2 : Int32} {H : Heap} {locs : List Loc} {ls : Array Slot}, f_T_writeNumber_3 post n σ x1 x2 → CX D vcl (tyl cA) (wC cA a σ) (XC ad) A s H locs → lv_has ls 3 [(0, .ref (a 23)), (1, .int x1), (2, .int x2)] → W p l e r_T_writeNumber s m args below meth c H locs 0 0 Q (F0 m 3 ls []) := by
  have hx := fx.1
  have hb := fx.2.1
  intro n
  induction n with
  | zero => intro σ x1 x2 H locs ls h; exact h.elim
  | succ n ih =>
    intro σ x1 x2 H locs ls h hw hl
    have K3 := @ih
    unfold f_T_writeNumber_3 at h
    refine lv_iload_n (pc := 3) hx hb d_T_writeNumber_3 rfl (lv_at hl 2 rfl) ?_
    refine lv_if_lt (pc := 4) (tgt := 37) hx hb d_T_writeNumber_4 (by decide) (fun c9 => ?_) (fun c9 => ?_)
    · replace h := h.1 c9
      exact HR d_T_writeNumber_37 h hw
    · replace h := h.2 c9
      refine lv_iload_n (pc := 7) hx hb d_T_writeNumber_7 rfl (lv_at hl 2 rfl) ?_
      refine lv_if_eq (pc := 8) (tgt := 17) hx hb d_T_writeNumber_8 (by decide) (fun c9 => ?_) (fun c9 => ?_)
      · replace h := h.1 c9
        exact c_T_writeNumber_17  fx HR K3 h hw (lv_sub hl [0, 1, 2] rfl)
      · replace h := h.2 c9
        refine lv_iload_n (pc := 11) hx hb d_T_writeNumber_11 rfl (lv_at hl 1 rfl) ?_
        refine lv_iload_n (pc := 12) hx hb d_T_writeNumber_12 rfl (lv_at hl 2 rfl) ?_
        refine lv_ishr (pc := 13) hx hb d_T_writeNumber_13 ?_
        refine lv_if_eq (pc := 14) (tgt := 31) hx hb d_T_writeNumber_14 (by decide) (fun c9 => ?_) (fun c9 => ?_)
        · replace h := h.1 c9
          exact c_T_writeNumber_31  fx HR K3 h hw (lv_sub hl [0, 1, 2] rfl)
        · replace h := h.2 c9
          exact c_T_writeNumber_17  fx HR K3 h hw (lv_sub hl [0, 1, 2] rfl)
set_option maxHeartbeats 4000000 in
set_option maxRecDepth 100000 in
theorem e_T_writeNumber (fx : CallFix p m c b_T_writeNumber 3 s args GW RNT) {post : SS → Prop} (HR : RetV p l e r_T_writeNumber s m args below meth c Q D vcl (tyl cA) (wC cA a) (XC ad) A b_T_writeNumber post) {σ : SS} {x1 : Int32} {H : Heap} {locs : List Loc} {ls : Array Slot} (h : f_T_writeNumber post σ x1) (hw : CX D vcl (tyl cA) (wC cA a σ) (XC ad) A s H locs) (hl : lv_has ls 3 [(0, .ref (a 23)), (1, .int x1)]) : W p l e r_T_writeNumber s m args below meth c H locs 0 0 Q (F0 m 0 ls []) := by
  have hx := fx.1
  have hb := fx.2.1
  unfold f_T_writeNumber at h
  refine lv_bipush (pc := 0) (v := 15) hx hb d_T_writeNumber_0 (by decide) ?_
  refine lv_istore_n (pc := 2) (lv' := [(2, .int 15), (0, .ref (a 23)), (1, .int x1)]) hx hb d_T_writeNumber_2 rfl hl (by decide) rfl (fun ls hl => ?_)
  obtain ⟨n9, h⟩ := h
  exact c_T_writeNumber_3  fx HR n9 h hw (lv_sub hl [1, 2, 0] rfl)
end
theorem c_T_writeNumber {l : Launch} {D : va_G} {cA : Nat → ClassId} {a : Nat → Nat} {ad : Nat → Nat → Nat} {σ : SS} {post : SS → Prop} {x1 : Int32} (h : f_T_writeNumber post σ x1) : mV l y_T_writeNumber b_T_writeNumber 3 none 1 21 D vcl (tyl cA) (wC cA a) (XC ad) σ [.ref (a 23), .int x1] post := met_V (by decide) (Nat.le_of_ble_eq_true rfl) (fun p e s m args below meth c A Q fx HR H ls hw hl => e_T_writeNumber  fx HR h hw hl)
abbrev r_JPre_checkIndex3_n : Room := { frames := 0, cells := 0, slots := 0, locals := 0 }
def f_JPre_checkIndex3_n_9_2n (post : Int32 → SS → Prop) (σ : SS) (x0 : Int32) (x1 : Int32) : Prop := False
def f_JPre_checkIndex3_n (post : Int32 → SS → Prop) (σ : SS) (x0 : Int32) (x1 : Int32) : Prop := br (x0 < 0) (f_JPre_checkIndex3_n_9_2n post σ x0 x1) (br (x0 < x1) (post x0 σ) (f_JPre_checkIndex3_n_9_2n post σ x0 x1))
section
variable {p : Program} {l : Launch} {e : Env} {s : State} {m : MethodId} {args : Array Value} {below : List Frame} {meth : Method} {c : Code} {Q : State → Prop} {D : va_G} {cA : Nat → ClassId} {a : Nat → Nat} {ad : Nat → Nat → Nat} {A : Nat → Prop}
set_option maxHeartbeats 4000000 in
set_option maxRecDepth 100000 in
theorem c_JPre_checkIndex3_n_9_2n (fx : CallFix p m c b_JPre_checkIndex3 3 s args GW "jdk/internal/util/Preconditions") {post : Int32 → SS → Prop} (HR : RetI p l e r_JPre_checkIndex3_n s m args below meth c Q D vcl (tyl cA) (wC cA a) (XC ad) A b_JPre_checkIndex3 .int post) {σ : SS} {x0 : Int32} {x1 : Int32} {H : Heap} {locs : List Loc} {ls : Array Slot} (h : f_JPre_checkIndex3_n_9_2n post σ x0 x1) (hw : CX D vcl (tyl cA) (wC cA a σ) (XC ad) A s H locs) (hl : lv_has ls 3 [(0, .int x0), (1, .int x1), (2, .null)]) : W p l e r_JPre_checkIndex3_n s m args below meth c H locs 0 0 Q (F0 m 9 ls []) := by
  have hx := fx.1
  have hb := fx.2.1
  unfold f_JPre_checkIndex3_n_9_2n at h
  refine lv_aload_nN (pc := 9) hx hb d_JPre_checkIndex3_9 rfl (lv_at hl 2 rfl) ?_
  refine lv_iload_n (pc := 10) hx hb d_JPre_checkIndex3_10 rfl (lv_at hl 0 rfl) ?_
  refine lv_iload_n (pc := 11) hx hb d_JPre_checkIndex3_11 rfl (lv_at hl 1 rfl) ?_
  exact h.elim
set_option maxHeartbeats 4000000 in
set_option maxRecDepth 100000 in
theorem e_JPre_checkIndex3_n (fx : CallFix p m c b_JPre_checkIndex3 3 s args GW "jdk/internal/util/Preconditions") {post : Int32 → SS → Prop} (HR : RetI p l e r_JPre_checkIndex3_n s m args below meth c Q D vcl (tyl cA) (wC cA a) (XC ad) A b_JPre_checkIndex3 .int post) {σ : SS} {x0 : Int32} {x1 : Int32} {H : Heap} {locs : List Loc} {ls : Array Slot} (h : f_JPre_checkIndex3_n post σ x0 x1) (hw : CX D vcl (tyl cA) (wC cA a σ) (XC ad) A s H locs) (hl : lv_has ls 3 [(0, .int x0), (1, .int x1), (2, .null)]) : W p l e r_JPre_checkIndex3_n s m args below meth c H locs 0 0 Q (F0 m 0 ls []) := by
  have hx := fx.1
  have hb := fx.2.1
  unfold f_JPre_checkIndex3_n at h
  refine lv_iload_n (pc := 0) hx hb d_JPre_checkIndex3_0 rfl (lv_at hl 0 rfl) ?_
  refine lv_if_lt (pc := 1) (tgt := 9) hx hb d_JPre_checkIndex3_1 (by decide) (fun c9 => ?_) (fun c9 => ?_)
  · replace h := h.1 c9
    exact c_JPre_checkIndex3_n_9_2n  fx HR h hw (lv_sub hl [0, 1, 2] rfl)
  · replace h := h.2 c9
    refine lv_iload_n (pc := 4) hx hb d_JPre_checkIndex3_4 rfl (lv_at hl 0 rfl) ?_
    refine lv_iload_n (pc := 5) hx hb d_JPre_checkIndex3_5 rfl (lv_at hl 1 rfl) ?_
    refine lv_icmp_lt (pc := 6) (tgt := 16) hx hb d_JPre_checkIndex3_6 (by decide) (fun c9 => ?_) (fun c9 => ?_)
    · replace h := h.1 c9
      refine lv_iload_n (pc := 16) hx hb d_JPre_checkIndex3_16 rfl (lv_at hl 0 rfl) ?_
      exact HR rfl d_JPre_checkIndex3_17 h hw
    · replace h := h.2 c9
      exact c_JPre_checkIndex3_n_9_2n  fx HR h hw (lv_sub hl [0, 1, 2] rfl)
end
theorem c_JPre_checkIndex3_n {l : Launch} {D : va_G} {cA : Nat → ClassId} {a : Nat → Nat} {ad : Nat → Nat → Nat} {σ : SS} {post : Int32 → SS → Prop} {x0 : Int32} {x1 : Int32} (h : f_JPre_checkIndex3_n post σ x0 x1) : mI l y_JPre_checkIndex3 b_JPre_checkIndex3 3 (some .int) 0 0 D vcl (tyl cA) (wC cA a) (XC ad) σ [.int x0, .int x1, .null] post := met_I (by decide) (Nat.le_of_ble_eq_true rfl) (fun p e s m args below meth c A Q fx HR H ls hw hl => e_JPre_checkIndex3_n  fx HR h hw hl)
abbrev r_JPre_checkIndex3_r : Room := { frames := 0, cells := 0, slots := 0, locals := 0 }
def f_JPre_checkIndex3_r_9 (post : Int32 → SS → Prop) (σ : SS) (x0 : Int32) (x1 : Int32) (x2 : Nat) : Prop := False
def f_JPre_checkIndex3_r (post : Int32 → SS → Prop) (σ : SS) (x0 : Int32) (x1 : Int32) (t2 : Nat) : Prop := br (x0 < 0) (f_JPre_checkIndex3_r_9 post σ x0 x1 t2) (br (x0 < x1) (post x0 σ) (f_JPre_checkIndex3_r_9 post σ x0 x1 t2))
section
variable {p : Program} {l : Launch} {e : Env} {s : State} {m : MethodId} {args : Array Value} {below : List Frame} {meth : Method} {c : Code} {Q : State → Prop} {D : va_G} {cA : Nat → ClassId} {a : Nat → Nat} {ad : Nat → Nat → Nat} {A : Nat → Prop}
set_option maxHeartbeats 4000000 in
set_option maxRecDepth 100000 in
theorem c_JPre_checkIndex3_r_9 (fx : CallFix p m c b_JPre_checkIndex3 3 s args GW "jdk/internal/util/Preconditions") {post : Int32 → SS → Prop} (HR : RetI p l e r_JPre_checkIndex3_r s m args below meth c Q D vcl (tyl cA) (wC cA a) (XC ad) A b_JPre_checkIndex3 .int post) {σ : SS} {x0 : Int32} {x1 : Int32} {x2 : Nat} {H : Heap} {locs : List Loc} {ls : Array Slot} (h : f_JPre_checkIndex3_r_9 post σ x0 x1 x2) (hw : CX D vcl (tyl cA) (wC cA a σ) (XC ad) A s H locs) (hl : lv_has ls 3 [(0, .int x0), (1, .int x1), (2, .ref x2)]) : W p l e r_JPre_checkIndex3_r s m args below meth c H locs 0 0 Q (F0 m 9 ls []) := by
  have hx := fx.1
  have hb := fx.2.1
  unfold f_JPre_checkIndex3_r_9 at h
  refine lv_aload_n (pc := 9) hx hb d_JPre_checkIndex3_9 rfl (lv_at hl 2 rfl) ?_
  refine lv_iload_n (pc := 10) hx hb d_JPre_checkIndex3_10 rfl (lv_at hl 0 rfl) ?_
  refine lv_iload_n (pc := 11) hx hb d_JPre_checkIndex3_11 rfl (lv_at hl 1 rfl) ?_
  exact h.elim
set_option maxHeartbeats 4000000 in
set_option maxRecDepth 100000 in
theorem e_JPre_checkIndex3_r (fx : CallFix p m c b_JPre_checkIndex3 3 s args GW "jdk/internal/util/Preconditions") {post : Int32 → SS → Prop} (HR : RetI p l e r_JPre_checkIndex3_r s m args below meth c Q D vcl (tyl cA) (wC cA a) (XC ad) A b_JPre_checkIndex3 .int post) {σ : SS} {x0 : Int32} {x1 : Int32} {t2 : Nat} {H : Heap} {locs : List Loc} {ls : Array Slot} (h : f_JPre_checkIndex3_r post σ x0 x1 t2) (hw : CX D vcl (tyl cA) (wC cA a σ) (XC ad) A s H locs) (hl : lv_has ls 3 [(0, .int x0), (1, .int x1), (2, .ref t2)]) : W p l e r_JPre_checkIndex3_r s m args below meth c H locs 0 0 Q (F0 m 0 ls []) := by
  have hx := fx.1
  have hb := fx.2.1
  unfold f_JPre_checkIndex3_r at h
  refine lv_iload_n (pc := 0) hx hb d_JPre_checkIndex3_0 rfl (lv_at hl 0 rfl) ?_
  refine lv_if_lt (pc := 1) (tgt := 9) hx hb d_JPre_checkIndex3_1 (by decide) (fun c9 => ?_) (fun c9 => ?_)
  · replace h := h.1 c9
    exact c_JPre_checkIndex3_r_9  fx HR h hw (lv_sub hl [0, 1, 2] rfl)
  · replace h := h.2 c9
    refine lv_iload_n (pc := 4) hx hb d_JPre_checkIndex3_4 rfl (lv_at hl 0 rfl) ?_
    refine lv_iload_n (pc := 5) hx hb d_JPre_checkIndex3_5 rfl (lv_at hl 1 rfl) ?_
    refine lv_icmp_lt (pc := 6) (tgt := 16) hx hb d_JPre_checkIndex3_6 (by decide) (fun c9 => ?_) (fun c9 => ?_)
    · replace h := h.1 c9
      refine lv_iload_n (pc := 16) hx hb d_JPre_checkIndex3_16 rfl (lv_at hl 0 rfl) ?_
      exact HR rfl d_JPre_checkIndex3_17 h hw
    · replace h := h.2 c9
      exact c_JPre_checkIndex3_r_9  fx HR h hw (lv_sub hl [0, 1, 2] rfl)
end
theorem c_JPre_checkIndex3_r {l : Launch} {D : va_G} {cA : Nat → ClassId} {a : Nat → Nat} {ad : Nat → Nat → Nat} {σ : SS} {post : Int32 → SS → Prop} {x0 : Int32} {x1 : Int32} {t2 : Nat} (h : f_JPre_checkIndex3_r post σ x0 x1 t2) : mI l y_JPre_checkIndex3 b_JPre_checkIndex3 3 (some .int) 0 0 D vcl (tyl cA) (wC cA a) (XC ad) σ [.int x0, .int x1, .ref t2] post := met_I (by decide) (Nat.le_of_ble_eq_true rfl) (fun p e s m args below meth c A Q fx HR H ls hw hl => e_JPre_checkIndex3_r  fx HR h hw hl)
abbrev r_JStr_checkIndex2 : Room := { frames := 1, cells := 0, slots := 0, locals := 22 }
def f_JStr_checkIndex2 (post : SS → Prop) (σ : SS) (x0 : Int32) (x1 : Int32) : Prop := (f_JPre_checkIndex3_n (fun r_2 σ_1 => post σ_1) σ x0 x1) ∧ ∀ t9 : Nat, f_JPre_checkIndex3_r (fun r_4 σ_3 => post σ_3) σ x0 x1 t9
section
variable {p : Program} {l : Launch} {e : Env} {s : State} {m : MethodId} {args : Array Value} {below : List Frame} {meth : Method} {c : Code} {Q : State → Prop} {D : va_G} {cA : Nat → ClassId} {a : Nat → Nat} {ad : Nat → Nat → Nat} {A : Nat → Prop}
set_option maxHeartbeats 4000000 in
set_option maxRecDepth 100000 in
theorem e_JStr_checkIndex2 (fx : CallFix p m c b_JStr_checkIndex2 2 s args GW "java/lang/String") {post : SS → Prop} (HR : RetV p l e r_JStr_checkIndex2 s m args below meth c Q D vcl (tyl cA) (wC cA a) (XC ad) A b_JStr_checkIndex2 post) {σ : SS} {x0 : Int32} {x1 : Int32} {H : Heap} {locs : List Loc} {ls : Array Slot} (h : f_JStr_checkIndex2 post σ x0 x1) (hw : CX D vcl (tyl cA) (wC cA a σ) (XC ad) A s H locs) (hl : lv_has ls 2 [(0, .int x0), (1, .int x1)]) : W p l e r_JStr_checkIndex2 s m args below meth c H locs 0 0 Q (F0 m 0 ls []) := by
  have hx := fx.1
  have hb := fx.2.1
  unfold f_JStr_checkIndex2 at h
  refine lv_iload_n (pc := 0) hx hb d_JStr_checkIndex2_0 rfl (lv_at hl 0 rfl) ?_
  refine lv_iload_n (pc := 1) hx hb d_JStr_checkIndex2_1 rfl (lv_at hl 1 rfl) ?_
  refine gzP (pc := 2) fx hw kw_453 d_JStr_checkIndex2_2 ?_ (fun t9 => ?_)
  · replace h := h.1
    refine rsI (pc := 5) hw (rnS (pc := 5) xtC fx hw (c_JPre_checkIndex3_n h _) cw_JStr_1059 rfl ⟨Nat.le_of_ble_eq_true rfl, Nat.le_of_ble_eq_true rfl⟩ hl.1 (Nat.le_of_ble_eq_true rfl) d_JStr_checkIndex2_5 ⟨Nat.zero_le _, Nat.zero_le _⟩) (fun r_2 σ_1 H locs hw h => ?_)
    refine lv_pop (pc := 8) hx hb d_JStr_checkIndex2_8 rfl ?_
    exact HR d_JStr_checkIndex2_9 h hw
  · replace h := h.2 t9
    refine rsI (pc := 5) hw (rnS (pc := 5) xtC fx hw (c_JPre_checkIndex3_r h _) cw_JStr_1059 rfl ⟨Nat.le_of_ble_eq_true rfl, Nat.le_of_ble_eq_true rfl⟩ hl.1 (Nat.le_of_ble_eq_true rfl) d_JStr_checkIndex2_5 ⟨Nat.zero_le _, Nat.zero_le _⟩) (fun r_4 σ_3 H locs hw h => ?_)
    refine lv_pop (pc := 8) hx hb d_JStr_checkIndex2_8 rfl ?_
    exact HR d_JStr_checkIndex2_9 h hw
end
theorem c_JStr_checkIndex2 {l : Launch} {D : va_G} {cA : Nat → ClassId} {a : Nat → Nat} {ad : Nat → Nat → Nat} {σ : SS} {post : SS → Prop} {x0 : Int32} {x1 : Int32} (h : f_JStr_checkIndex2 post σ x0 x1) : mV l y_JStr_checkIndex2 b_JStr_checkIndex2 2 none 1 22 D vcl (tyl cA) (wC cA a) (XC ad) σ [.int x0, .int x1] post := met_V (by decide) (Nat.le_of_ble_eq_true rfl) (fun p e s m args below meth c A Q fx HR H ls hw hl => e_JStr_checkIndex2  fx HR h hw hl)
