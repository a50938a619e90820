/-! the class, walked: part 6 -/
abbrev r_N_why : Room := { frames := 0, cells := 0, slots := 0, locals := 0 }
def f_N_why (post : Int32 → SS → Prop) (σ : SS) : Prop := post (σ.1 8) σ
section
variable {p : Program} {l : Launch} {e : Env} {s : State} {m : MethodId} {args : Array Value} {below : List Frame} {meth : Method} {c : Code} {Q : State → Prop} {D : va_G} {cA : Nat → ClassId} {a : Nat → Nat} {ad : Nat → Nat → Nat} {A : Nat → Prop}
set_option maxHeartbeats 4000000 in
set_option maxRecDepth 100000 in
theorem e_N_why (fx : CallFix p m c b_N_why 1 s args GW RNN) {post : Int32 → SS → Prop} (HR : RetI p l e r_N_why s m args below meth c Q D vcl (tyl cA) (wC cA a) (XC ad) A b_N_why .int post) {σ : SS} {H : Heap} {locs : List Loc} {ls : Array Slot} (h : f_N_why post σ) (hw : CX D vcl (tyl cA) (wC cA a σ) (XC ad) A s H locs) (hl : lv_has ls 1 [(0, .ref (a 0))]) : W p l e r_N_why s m args below meth c H locs 0 0 Q (F0 m 0 ls []) := by
  have hx := fx.1
  have hb := fx.2.1
  unfold f_N_why at h
  refine lv_aload_n (pc := 0) hx hb d_N_why_0 rfl (lv_at hl 0 rfl) ?_
  refine gC_0_machine (pc := 1) fx hw kw_276 d_N_why_1 ?_
  refine gC_1_ending (pc := 4) fx hw kw_138 d_N_why_4 ?_
  exact HR rfl d_N_why_7 h hw
end
theorem c_N_why {l : Launch} {D : va_G} {cA : Nat → ClassId} {a : Nat → Nat} {ad : Nat → Nat → Nat} {σ : SS} {post : Int32 → SS → Prop} (h : f_N_why post σ) : mI l y_N_why b_N_why 1 (some .int) 0 0 D vcl (tyl cA) (wC cA a) (XC ad) σ [.ref (a 0)] post := met_I (by decide) (Nat.le_of_ble_eq_true rfl) (fun p e s m args below meth c A Q fx HR H ls hw hl => e_N_why  fx HR h hw hl)
abbrev r_N_printed : Room := { frames := 1, cells := 0, slots := 0, locals := 21 }
def f_N_printed (post : Int32 → SS → Prop) (σ : SS) (x1 : Int32) : Prop := f_P_characterAt (fun r_2 σ_1 => post r_2 σ_1) σ x1
section
variable {p : Program} {l : Launch} {e : Env} {s : State} {m : MethodId} {args : Array Value} {below : List Frame} {meth : Method} {c : Code} {Q : State → Prop} {D : va_G} {cA : Nat → ClassId} {a : Nat → Nat} {ad : Nat → Nat → Nat} {A : Nat → Prop}
set_option maxHeartbeats 4000000 in
set_option maxRecDepth 100000 in
theorem e_N_printed (fx : CallFix p m c b_N_printed 2 s args GW RNN) {post : Int32 → SS → Prop} (HR : RetI p l e r_N_printed s m args below meth c Q D vcl (tyl cA) (wC cA a) (XC ad) A b_N_printed .int post) {σ : SS} {x1 : Int32} {H : Heap} {locs : List Loc} {ls : Array Slot} (h : f_N_printed post σ x1) (hw : CX D vcl (tyl cA) (wC cA a σ) (XC ad) A s H locs) (hl : lv_has ls 2 [(0, .ref (a 0)), (1, .int x1)]) : W p l e r_N_printed s m args below meth c H locs 0 0 Q (F0 m 0 ls []) := by
  have hx := fx.1
  have hb := fx.2.1
  unfold f_N_printed at h
  refine lv_aload_n (pc := 0) hx hb d_N_printed_0 rfl (lv_at hl 0 rfl) ?_
  refine gC_0_machine (pc := 1) fx hw kw_276 d_N_printed_1 ?_
  refine gC_1_printer (pc := 4) fx hw kw_127 d_N_printed_4 ?_
  refine lv_iload_n (pc := 7) hx hb d_N_printed_7 rfl (lv_at hl 1 rfl) ?_
  refine rsI (pc := 8) hw (rnV (pc := 8) xtC fx hw (c_P_characterAt h _) cw_N_87 (rcC_6 hw) rfl ⟨Nat.le_of_ble_eq_true rfl, Nat.le_of_ble_eq_true rfl⟩ hl.1 (Nat.le_of_ble_eq_true rfl) d_N_printed_8 ⟨Nat.zero_le _, Nat.zero_le _⟩) (fun r_2 σ_1 H locs hw h => ?_)
  exact HR rfl d_N_printed_11 h hw
end
theorem c_N_printed {l : Launch} {D : va_G} {cA : Nat → ClassId} {a : Nat → Nat} {ad : Nat → Nat → Nat} {σ : SS} {post : Int32 → SS → Prop} {x1 : Int32} (h : f_N_printed post σ x1) : mI l y_N_printed b_N_printed 2 (some .int) 1 21 D vcl (tyl cA) (wC cA a) (XC ad) σ [.ref (a 0), .int x1] post := met_I (by decide) (Nat.le_of_ble_eq_true rfl) (fun p e s m args below meth c A Q fx HR H ls hw hl => e_N_printed  fx HR h hw hl)
abbrev r_N_tear : Room := { frames := 1, cells := 0, slots := 0, locals := 21 }
def f_N_tear (post : Int32 → SS → Prop) (σ : SS) : Prop := f_P_takePaper (fun r_2 σ_1 => post r_2 σ_1) σ
section
variable {p : Program} {l : Launch} {e : Env} {s : State} {m : MethodId} {args : Array Value} {below : List Frame} {meth : Method} {c : Code} {Q : State → Prop} {D : va_G} {cA : Nat → ClassId} {a : Nat → Nat} {ad : Nat → Nat → Nat} {A : Nat → Prop}
set_option maxHeartbeats 4000000 in
set_option maxRecDepth 100000 in
theorem e_N_tear (fx : CallFix p m c b_N_tear 1 s args GW RNN) {post : Int32 → SS → Prop} (HR : RetI p l e r_N_tear s m args below meth c Q D vcl (tyl cA) (wC cA a) (XC ad) A b_N_tear .int post) {σ : SS} {H : Heap} {locs : List Loc} {ls : Array Slot} (h : f_N_tear post σ) (hw : CX D vcl (tyl cA) (wC cA a σ) (XC ad) A s H locs) (hl : lv_has ls 1 [(0, .ref (a 0))]) : W p l e r_N_tear s m args below meth c H locs 0 0 Q (F0 m 0 ls []) := by
  have hx := fx.1
  have hb := fx.2.1
  unfold f_N_tear at h
  refine lv_aload_n (pc := 0) hx hb d_N_tear_0 rfl (lv_at hl 0 rfl) ?_
  refine gC_0_machine (pc := 1) fx hw kw_276 d_N_tear_1 ?_
  refine gC_1_printer (pc := 4) fx hw kw_127 d_N_tear_4 ?_
  refine rsI (pc := 7) hw (rnV (pc := 7) xtC fx hw (c_P_takePaper h _) cw_N_92 (rcC_6 hw) rfl ⟨Nat.le_of_ble_eq_true rfl, Nat.le_of_ble_eq_true rfl⟩ hl.1 (Nat.le_of_ble_eq_true rfl) d_N_tear_7 ⟨Nat.zero_le _, Nat.zero_le _⟩) (fun r_2 σ_1 H locs hw h => ?_)
  exact HR rfl d_N_tear_10 h hw
end
theorem c_N_tear {l : Launch} {D : va_G} {cA : Nat → ClassId} {a : Nat → Nat} {ad : Nat → Nat → Nat} {σ : SS} {post : Int32 → SS → Prop} (h : f_N_tear post σ) : mI l y_N_tear b_N_tear 1 (some .int) 1 21 D vcl (tyl cA) (wC cA a) (XC ad) σ [.ref (a 0)] post := met_I (by decide) (Nat.le_of_ble_eq_true rfl) (fun p e s m args below meth c A Q fx HR H ls hw hl => e_N_tear  fx HR h hw hl)
abbrev r_N_reset : Room := { frames := 4, cells := 0, slots := 0, locals := 81 }
def f_N_reset (post : SS → Prop) (σ : SS) : Prop := f_M_clear (fun σ_1 => f_A_clear (fun σ_3 => f_T_clear (fun σ_5 => post σ_5) σ_3) σ_1) σ
section
variable {p : Program} {l : Launch} {e : Env} {s : State} {m : MethodId} {args : Array Value} {below : List Frame} {meth : Method} {c : Code} {Q : State → Prop} {D : va_G} {cA : Nat → ClassId} {a : Nat → Nat} {ad : Nat → Nat → Nat} {A : Nat → Prop}
set_option maxHeartbeats 4000000 in
set_option maxRecDepth 100000 in
theorem e_N_reset (fx : CallFix p m c b_N_reset 1 s args GW RNN) {post : SS → Prop} (HR : RetV p l e r_N_reset s m args below meth c Q D vcl (tyl cA) (wC cA a) (XC ad) A b_N_reset post) {σ : SS} {H : Heap} {locs : List Loc} {ls : Array Slot} (h : f_N_reset post σ) (hw : CX D vcl (tyl cA) (wC cA a σ) (XC ad) A s H locs) (hl : lv_has ls 1 [(0, .ref (a 0))]) : W p l e r_N_reset s m args below meth c H locs 0 0 Q (F0 m 0 ls []) := by
  have hx := fx.1
  have hb := fx.2.1
  unfold f_N_reset at h
  refine lv_aload_n (pc := 0) hx hb d_N_reset_0 rfl (lv_at hl 0 rfl) ?_
  refine gC_0_machine (pc := 1) fx hw kw_276 d_N_reset_1 ?_
  refine rsV (pc := 4) hw (rnV (pc := 4) xtC fx hw (c_M_clear h _) cw_N_96 (rcC_1 hw) rfl ⟨Nat.le_of_ble_eq_true rfl, Nat.le_of_ble_eq_true rfl⟩ hl.1 (Nat.le_of_ble_eq_true rfl) d_N_reset_4 ⟨Nat.zero_le _, Nat.zero_le _⟩) (fun σ_1 H locs hw h => ?_)
  refine lv_aload_n (pc := 7) hx hb d_N_reset_7 rfl (lv_at hl 0 rfl) ?_
  refine gC_0_assembler (pc := 8) fx hw kw_277 d_N_reset_8 ?_
  refine rsV (pc := 11) hw (rnV (pc := 11) xtC fx hw (c_A_clear h _) cw_N_99 (rcC_10 hw) rfl ⟨Nat.le_of_ble_eq_true rfl, Nat.le_of_ble_eq_true rfl⟩ hl.1 (Nat.le_of_ble_eq_true rfl) d_N_reset_11 ⟨Nat.zero_le _, Nat.zero_le _⟩) (fun σ_3 H locs hw h => ?_)
  refine lv_aload_n (pc := 14) hx hb d_N_reset_14 rfl (lv_at hl 0 rfl) ?_
  refine gC_0_teller (pc := 15) fx hw kw_278 d_N_reset_15 ?_
  refine rsV (pc := 18) hw (rnV (pc := 18) xtC fx hw (c_T_clear h _) cw_N_100 (rcC_23 hw) rfl ⟨Nat.le_of_ble_eq_true rfl, Nat.le_of_ble_eq_true rfl⟩ hl.1 (Nat.le_of_ble_eq_true rfl) d_N_reset_18 ⟨Nat.zero_le _, Nat.zero_le _⟩) (fun σ_5 H locs hw h => ?_)
  exact HR d_N_reset_21 h hw
end
theorem c_N_reset {l : Launch} {D : va_G} {cA : Nat → ClassId} {a : Nat → Nat} {ad : Nat → Nat → Nat} {σ : SS} {post : SS → Prop} (h : f_N_reset post σ) : mV l y_N_reset b_N_reset 1 none 4 81 D vcl (tyl cA) (wC cA a) (XC ad) σ [.ref (a 0)] post := met_V (by decide) (Nat.le_of_ble_eq_true rfl) (fun p e s m args below meth c A Q fx HR H ls hw hl => e_N_reset  fx HR h hw hl)
abbrev r_N_assemble : Room := { frames := 10, cells := 0, slots := 0, locals := 235 }
def f_N_assemble (post : Int32 → SS → Prop) (σ : SS) : Prop := f_A_begin (fun σ_1 => f_A_goThrough (fun σ_3 => f_A_goThrough (fun σ_5 => f_A_finish (fun r_8 σ_7 => post r_8 σ_7) σ_5) σ_3 0) σ_1 1) σ
section
variable {p : Program} {l : Launch} {e : Env} {s : State} {m : MethodId} {args : Array Value} {below : List Frame} {meth : Method} {c : Code} {Q : State → Prop} {D : va_G} {cA : Nat → ClassId} {a : Nat → Nat} {ad : Nat → Nat → Nat} {A : Nat → Prop}
set_option maxHeartbeats 4000000 in
set_option maxRecDepth 100000 in
theorem e_N_assemble (fx : CallFix p m c b_N_assemble 1 s args GW RNN) {post : Int32 → SS → Prop} (HR : RetI p l e r_N_assemble s m args below meth c Q D vcl (tyl cA) (wC cA a) (XC ad) A b_N_assemble .int post) {σ : SS} {H : Heap} {locs : List Loc} {ls : Array Slot} (h : f_N_assemble post σ) (hw : CX D vcl (tyl cA) (wC cA a σ) (XC ad) A s H locs) (hl : lv_has ls 1 [(0, .ref (a 0))]) : W p l e r_N_assemble s m args below meth c H locs 0 0 Q (F0 m 0 ls []) := by
  have hx := fx.1
  have hb := fx.2.1
  unfold f_N_assemble at h
  refine lv_aload_n (pc := 0) hx hb d_N_assemble_0 rfl (lv_at hl 0 rfl) ?_
  refine gC_0_assembler (pc := 1) fx hw kw_277 d_N_assemble_1 ?_
  refine rsV (pc := 4) hw (rnV (pc := 4) xtC fx hw (c_A_begin h _) cw_N_113 (rcC_10 hw) rfl ⟨Nat.le_of_ble_eq_true rfl, Nat.le_of_ble_eq_true rfl⟩ hl.1 (Nat.le_of_ble_eq_true rfl) d_N_assemble_4 ⟨Nat.zero_le _, Nat.zero_le _⟩) (fun σ_1 H locs hw h => ?_)
  refine lv_aload_n (pc := 7) hx hb d_N_assemble_7 rfl (lv_at hl 0 rfl) ?_
  refine gC_0_assembler (pc := 8) fx hw kw_277 d_N_assemble_8 ?_
  refine lv_iconst (pc := 11) (v := 1) hx hb d_N_assemble_11 (by decide) ?_
  refine rsV (pc := 12) hw (rnV (pc := 12) xtC fx hw (c_A_goThrough h _) cw_N_116 (rcC_10 hw) rfl ⟨Nat.le_of_ble_eq_true rfl, Nat.le_of_ble_eq_true rfl⟩ hl.1 (Nat.le_of_ble_eq_true rfl) d_N_assemble_12 ⟨Nat.zero_le _, Nat.zero_le _⟩) (fun σ_3 H locs hw h => ?_)
  refine lv_aload_n (pc := 15) hx hb d_N_assemble_15 rfl (lv_at hl 0 rfl) ?_
  refine gC_0_assembler (pc := 16) fx hw kw_277 d_N_assemble_16 ?_
  refine lv_iconst (pc := 19) (v := 0) hx hb d_N_assemble_19 (by decide) ?_
  refine rsV (pc := 20) hw (rnV (pc := 20) xtC fx hw (c_A_goThrough h _) cw_N_116 (rcC_10 hw) rfl ⟨Nat.le_of_ble_eq_true rfl, Nat.le_of_ble_eq_true rfl⟩ hl.1 (Nat.le_of_ble_eq_true rfl) d_N_assemble_20 ⟨Nat.zero_le _, Nat.zero_le _⟩) (fun σ_5 H locs hw h => ?_)
  refine lv_aload_n (pc := 23) hx hb d_N_assemble_23 rfl (lv_at hl 0 rfl) ?_
  refine gC_0_assembler (pc := 24) fx hw kw_277 d_N_assemble_24 ?_
  refine lv_aload_n (pc := 27) hx hb d_N_assemble_27 rfl (lv_at hl 0 rfl) ?_
  refine gC_0_machine (pc := 28) fx hw kw_276 d_N_assemble_28 ?_
  refine rsI (pc := 31) hw (rnV (pc := 31) xtC fx hw (c_A_finish h _) cw_N_119 (rcC_10 hw) rfl ⟨Nat.le_of_ble_eq_true rfl, Nat.le_of_ble_eq_true rfl⟩ hl.1 (Nat.le_of_ble_eq_true rfl) d_N_assemble_31 ⟨Nat.zero_le _, Nat.zero_le _⟩) (fun r_8 σ_7 H locs hw h => ?_)
  exact HR rfl d_N_assemble_34 h hw
end
theorem c_N_assemble {l : Launch} {D : va_G} {cA : Nat → ClassId} {a : Nat → Nat} {ad : Nat → Nat → Nat} {σ : SS} {post : Int32 → SS → Prop} (h : f_N_assemble post σ) : mI l y_N_assemble b_N_assemble 1 (some .int) 10 235 D vcl (tyl cA) (wC cA a) (XC ad) σ [.ref (a 0)] post := met_I (by decide) (Nat.le_of_ble_eq_true rfl) (fun p e s m args below meth c A Q fx HR H ls hw hl => e_N_assemble  fx HR h hw hl)
abbrev r_N_label : Room := { frames := 1, cells := 0, slots := 0, locals := 23 }
def f_N_label (post : Int32 → SS → Prop) (σ : SS) (x1 : Int32) (x2 : Int32) : Prop := br (σ.1 24 = 0) (f_L_find_14 (fun r_2 σ_1 => post r_2 σ_1) σ (((x1.toInt64) <<< ((32 : Int32).toInt64 &&& 63)) ||| ((x2.toInt64) &&& 4294967295))) (f_L_find_17 (fun r_4 σ_3 => post r_4 σ_3) σ (((x1.toInt64) <<< ((32 : Int32).toInt64 &&& 63)) ||| ((x2.toInt64) &&& 4294967295)))
section
variable {p : Program} {l : Launch} {e : Env} {s : State} {m : MethodId} {args : Array Value} {below : List Frame} {meth : Method} {c : Code} {Q : State → Prop} {D : va_G} {cA : Nat → ClassId} {a : Nat → Nat} {ad : Nat → Nat → Nat} {A : Nat → Prop}
set_option maxHeartbeats 4000000 in
set_option maxRecDepth 100000 in
theorem e_N_label (fx : CallFix p m c b_N_label 3 s args GW RNN) {post : Int32 → SS → Prop} (HR : RetI p l e r_N_label s m args below meth c Q D vcl (tyl cA) (wC cA a) (XC ad) A b_N_label .int post) {σ : SS} {x1 : Int32} {x2 : Int32} {H : Heap} {locs : List Loc} {ls : Array Slot} (h : f_N_label post σ x1 x2) (hw : CX D vcl (tyl cA) (wC cA a σ) (XC ad) A s H locs) (hl : lv_has ls 3 [(0, .ref (a 0)), (1, .int x1), (2, .int x2)]) : W p l e r_N_label s m args below meth c H locs 0 0 Q (F0 m 0 ls []) := by
  have hx := fx.1
  have hb := fx.2.1
  unfold f_N_label at h
  refine lv_aload_n (pc := 0) hx hb d_N_label_0 rfl (lv_at hl 0 rfl) ?_
  refine gC_0_assembler (pc := 1) fx hw kw_277 d_N_label_1 ?_
  refine gC_10_latest_s (pc := 4) fx hw kw_219 d_N_label_4 (fun c9 => ?_) (fun c9 => ?_)
  · replace h := h.1 c9
    refine lv_iload_n (pc := 7) hx hb d_N_label_7 rfl (lv_at hl 1 rfl) ?_
    refine lv_i2l (pc := 8) hx hb d_N_label_8 rfl ?_
    refine lv_bipush (pc := 9) (v := 32) hx hb d_N_label_9 (by decide) ?_
    refine lv_lshl (pc := 11) hx hb d_N_label_11 rfl ?_
    refine lv_iload_n (pc := 12) hx hb d_N_label_12 rfl (lv_at hl 2 rfl) ?_
    refine lv_i2l (pc := 13) hx hb d_N_label_13 rfl ?_
    refine lv_ldc2 (pc := 14) (v := 4294967295) hx hb fx.2.2.2.1 (fx.2.2.2.2 _ kw_638) d_N_label_14 ?_
    refine lv_land (pc := 17) hx hb d_N_label_17 ?_
    refine lv_lor (pc := 18) hx hb d_N_label_18 ?_
    refine rsI (pc := 19) hw (rnV (pc := 19) xtC fx hw (c_L_find_14 h _) cw_N_135 (rcC_14 hw) rfl ⟨Nat.le_of_ble_eq_true rfl, Nat.le_of_ble_eq_true rfl⟩ hl.1 (Nat.le_of_ble_eq_true rfl) d_N_label_19 ⟨Nat.zero_le _, Nat.zero_le _⟩) (fun r_2 σ_1 H locs hw h => ?_)
    exact HR rfl d_N_label_22 h hw
  · replace h := h.2 c9
    refine lv_iload_n (pc := 7) hx hb d_N_label_7 rfl (lv_at hl 1 rfl) ?_
    refine lv_i2l (pc := 8) hx hb d_N_label_8 rfl ?_
    refine lv_bipush (pc := 9) (v := 32) hx hb d_N_label_9 (by decide) ?_
    refine lv_lshl (pc := 11) hx hb d_N_label_11 rfl ?_
    refine lv_iload_n (pc := 12) hx hb d_N_label_12 rfl (lv_at hl 2 rfl) ?_
    refine lv_i2l (pc := 13) hx hb d_N_label_13 rfl ?_
    refine lv_ldc2 (pc := 14) (v := 4294967295) hx hb fx.2.2.2.1 (fx.2.2.2.2 _ kw_638) d_N_label_14 ?_
    refine lv_land (pc := 17) hx hb d_N_label_17 ?_
    refine lv_lor (pc := 18) hx hb d_N_label_18 ?_
    refine rsI (pc := 19) hw (rnV (pc := 19) xtC fx hw (c_L_find_17 h _) cw_N_135 (rcC_17 hw) rfl ⟨Nat.le_of_ble_eq_true rfl, Nat.le_of_ble_eq_true rfl⟩ hl.1 (Nat.le_of_ble_eq_true rfl) d_N_label_19 ⟨Nat.zero_le _, Nat.zero_le _⟩) (fun r_4 σ_3 H locs hw h => ?_)
    exact HR rfl d_N_label_22 h hw
end
theorem c_N_label {l : Launch} {D : va_G} {cA : Nat → ClassId} {a : Nat → Nat} {ad : Nat → Nat → Nat} {σ : SS} {post : Int32 → SS → Prop} {x1 : Int32} {x2 : Int32} (h : f_N_label post σ x1 x2) : mI l y_N_label b_N_label 3 (some .int) 1 23 D vcl (tyl cA) (wC cA a) (XC ad) σ [.ref (a 0), .int x1, .int x2] post := met_I (by decide) (Nat.le_of_ble_eq_true rfl) (fun p e s m args below meth c A Q fx HR H ls hw hl => e_N_label  fx HR h hw hl)
abbrev r_N_told : Room := { frames := 1, cells := 0, slots := 0, locals := 21 }
def f_N_told (post : Int32 → SS → Prop) (σ : SS) (x1 : Int32) : Prop := f_T_characterAt (fun r_2 σ_1 => post r_2 σ_1) σ x1
section
variable {p : Program} {l : Launch} {e : Env} {s : State} {m : MethodId} {args : Array Value} {below : List Frame} {meth : Method} {c : Code} {Q : State → Prop} {D : va_G} {cA : Nat → ClassId} {a : Nat → Nat} {ad : Nat → Nat → Nat} {A : Nat → Prop}
set_option maxHeartbeats 4000000 in
set_option maxRecDepth 100000 in
theorem e_N_told (fx : CallFix p m c b_N_told 2 s args GW RNN) {post : Int32 → SS → Prop} (HR : RetI p l e r_N_told s m args below meth c Q D vcl (tyl cA) (wC cA a) (XC ad) A b_N_told .int post) {σ : SS} {x1 : Int32} {H : Heap} {locs : List Loc} {ls : Array Slot} (h : f_N_told post σ x1) (hw : CX D vcl (tyl cA) (wC cA a σ) (XC ad) A s H locs) (hl : lv_has ls 2 [(0, .ref (a 0)), (1, .int x1)]) : W p l e r_N_told s m args below meth c H locs 0 0 Q (F0 m 0 ls []) := by
  have hx := fx.1
  have hb := fx.2.1
  unfold f_N_told at h
  refine lv_aload_n (pc := 0) hx hb d_N_told_0 rfl (lv_at hl 0 rfl) ?_
  refine gC_0_teller (pc := 1) fx hw kw_278 d_N_told_1 ?_
  refine lv_iload_n (pc := 4) hx hb d_N_told_4 rfl (lv_at hl 1 rfl) ?_
  refine rsI (pc := 5) hw (rnV (pc := 5) xtC fx hw (c_T_characterAt h _) cw_N_144 (rcC_23 hw) rfl ⟨Nat.le_of_ble_eq_true rfl, Nat.le_of_ble_eq_true rfl⟩ hl.1 (Nat.le_of_ble_eq_true rfl) d_N_told_5 ⟨Nat.zero_le _, Nat.zero_le _⟩) (fun r_2 σ_1 H locs hw h => ?_)
  exact HR rfl d_N_told_8 h hw
end
theorem c_N_told {l : Launch} {D : va_G} {cA : Nat → ClassId} {a : Nat → Nat} {ad : Nat → Nat → Nat} {σ : SS} {post : Int32 → SS → Prop} {x1 : Int32} (h : f_N_told post σ x1) : mI l y_N_told b_N_told 2 (some .int) 1 21 D vcl (tyl cA) (wC cA a) (XC ad) σ [.ref (a 0), .int x1] post := met_I (by decide) (Nat.le_of_ble_eq_true rfl) (fun p e s m args below meth c A Q fx HR H ls hw hl => e_N_told  fx HR h hw hl)
abbrev r_N_highestOf : Room := { frames := 0, cells := 0, slots := 0, locals := 0 }
def f_N_highestOf (post : Int32 → SS → Prop) (σ : SS) (x0 : Int32) : Prop := br (x0 = (4 : Int32)) (post 1 σ) (br (x0 = (5 : Int32)) (post 32767 σ) (post 65535 σ))
section
variable {p : Program} {l : Launch} {e : Env} {s : State} {m : MethodId} {args : Array Value} {below : List Frame} {meth : Method} {c : Code} {Q : State → Prop} {D : va_G} {cA : Nat → ClassId} {a : Nat → Nat} {ad : Nat → Nat → Nat} {A : Nat → Prop}
set_option maxHeartbeats 4000000 in
set_option maxRecDepth 100000 in
theorem e_N_highestOf (fx : CallFix p m c b_N_highestOf 1 s args GW RNN) {post : Int32 → SS → Prop} (HR : RetI p l e r_N_highestOf s m args below meth c Q D vcl (tyl cA) (wC cA a) (XC ad) A b_N_highestOf .int post) {σ : SS} {x0 : Int32} {H : Heap} {locs : List Loc} {ls : Array Slot} (h : f_N_highestOf post σ x0) (hw : CX D vcl (tyl cA) (wC cA a σ) (XC ad) A s H locs) (hl : lv_has ls 1 [(0, .int x0)]) : W p l e r_N_highestOf s m args below meth c H locs 0 0 Q (F0 m 0 ls []) := by
  have hx := fx.1
  have hb := fx.2.1
  unfold f_N_highestOf at h
  refine lv_iload_n (pc := 0) hx hb d_N_highestOf_0 rfl (lv_at hl 0 rfl) ?_
  by_cases cq_1 : x0 = (4 : Int32)
  · replace h := h.1 cq_1
    refine lv_lookup (pc := 1) (off := 27) (tgt := 28) hx hb d_N_highestOf_1 (by decide) (by rw [cq_1]; decide) (by decide) ?_
    refine lv_iconst (pc := 28) (v := 1) hx hb d_N_highestOf_28 (by decide) ?_
    exact HR rfl d_N_highestOf_29 h hw
  replace h := h.2 cq_1
  by_cases cq_2 : x0 = (5 : Int32)
  · replace h := h.1 cq_2
    refine lv_lookup (pc := 1) (off := 29) (tgt := 30) hx hb d_N_highestOf_1 (by decide) (by rw [cq_2]; decide) (by decide) ?_
    refine lv_sipush (pc := 30) (v := 32767) hx hb d_N_highestOf_30 (by decide) ?_
    exact HR rfl d_N_highestOf_33 h hw
  replace h := h.2 cq_2
  refine lv_lookup (pc := 1) (off := 33) (tgt := 34) hx hb d_N_highestOf_1 (by decide) (by rw [lv_osw cq_1 (by decide), lv_osw cq_2 (by decide)]; rfl) (by decide) ?_
  refine lv_ldc (pc := 34) (v := 65535) hx hb fx.2.2.2.1 (fx.2.2.2.2 _ kw_657) d_N_highestOf_34 ?_
  exact HR rfl d_N_highestOf_36 h hw
end
theorem c_N_highestOf {l : Launch} {D : va_G} {cA : Nat → ClassId} {a : Nat → Nat} {ad : Nat → Nat → Nat} {σ : SS} {post : Int32 → SS → Prop} {x0 : Int32} (h : f_N_highestOf post σ x0) : mI l y_N_highestOf b_N_highestOf 1 (some .int) 0 0 D vcl (tyl cA) (wC cA a) (XC ad) σ [.int x0] post := met_I (by decide) (Nat.le_of_ble_eq_true rfl) (fun p e s m args below meth c A Q fx HR H ls hw hl => e_N_highestOf  fx HR h hw hl)
