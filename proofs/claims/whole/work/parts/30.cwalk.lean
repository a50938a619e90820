/-! the class, walked: part 1 -/
abbrev r_M_load : Room := { frames := 0, cells := 0, slots := 0, locals := 0 }
def f_M_load (post : Int32 → SS → Prop) (σ : SS) (x1 : Int32) : Prop := vp_in (x1 &&& 32767) 32768 ∧ post (σ.2.1 2 (x1 &&& 32767).toNatClampNeg) σ
section
variable {p : Program} {l : Launch} {e : Env} {s : State} {m : MethodId} {args : Array Value} {below : List Frame} {meth : Method} {c : Code} {Q : State → Prop} {D : va_G} {cA : Nat → ClassId} {a : Nat → Nat} {ad : Nat → Nat → Nat} {A : Nat → Prop}
set_option maxHeartbeats 4000000 in
set_option maxRecDepth 100000 in
theorem e_M_load (fx : CallFix p m c b_M_load 2 s args GW RNM) {post : Int32 → SS → Prop} (HR : RetI p l e r_M_load s m args below meth c Q D vcl (tyl cA) (wC cA a) (XC ad) A b_M_load .int post) {σ : SS} {x1 : Int32} {H : Heap} {locs : List Loc} {ls : Array Slot} (h : f_M_load post σ x1) (hw : CX D vcl (tyl cA) (wC cA a σ) (XC ad) A s H locs) (hl : lv_has ls 2 [(0, .ref (a 1)), (1, .int x1)]) : W p l e r_M_load s m args below meth c H locs 0 0 Q (F0 m 0 ls []) := by
  have hx := fx.1
  have hb := fx.2.1
  unfold f_M_load at h
  refine lv_aload_n (pc := 0) hx hb d_M_load_0 rfl (lv_at hl 0 rfl) ?_
  refine gC_1_memory (pc := 1) fx hw kw_122 d_M_load_1 ?_
  refine lv_iload_n (pc := 4) hx hb d_M_load_4 rfl (lv_at hl 1 rfl) ?_
  refine lv_sipush (pc := 5) (v := 32767) hx hb d_M_load_5 (by decide) ?_
  refine lv_iand (pc := 8) hx hb d_M_load_8 ?_
  refine alC_2 (pc := 9) fx hw h.1 d_M_load_9 ?_
  replace h := h.2
  exact HR rfl d_M_load_10 h hw
end
theorem c_M_load {l : Launch} {D : va_G} {cA : Nat → ClassId} {a : Nat → Nat} {ad : Nat → Nat → Nat} {σ : SS} {post : Int32 → SS → Prop} {x1 : Int32} (h : f_M_load post σ x1) : mI l y_M_load b_M_load 2 (some .int) 0 0 D vcl (tyl cA) (wC cA a) (XC ad) σ [.ref (a 1), .int x1] post := met_I (by decide) (Nat.le_of_ble_eq_true rfl) (fun p e s m args below meth c A Q fx HR H ls hw hl => e_M_load  fx HR h hw hl)
abbrev r_M_store : Room := { frames := 0, cells := 0, slots := 0, locals := 0 }
def f_M_store (post : SS → Prop) (σ : SS) (x1 : Int32) (x2 : Int32) : Prop := vp_in (x1 &&& 32767) 32768 ∧ nm (sA σ 2 (x1 &&& 32767).toNatClampNeg x2) fun σ_1 => post σ_1
section
variable {p : Program} {l : Launch} {e : Env} {s : State} {m : MethodId} {args : Array Value} {below : List Frame} {meth : Method} {c : Code} {Q : State → Prop} {D : va_G} {cA : Nat → ClassId} {a : Nat → Nat} {ad : Nat → Nat → Nat} {A : Nat → Prop}
set_option maxHeartbeats 4000000 in
set_option maxRecDepth 100000 in
theorem e_M_store (fx : CallFix p m c b_M_store 3 s args GW RNM) {post : SS → Prop} (HR : RetV p l e r_M_store s m args below meth c Q D vcl (tyl cA) (wC cA a) (XC ad) A b_M_store post) {σ : SS} {x1 : Int32} {x2 : Int32} {H : Heap} {locs : List Loc} {ls : Array Slot} (h : f_M_store post σ x1 x2) (hw : CX D vcl (tyl cA) (wC cA a σ) (XC ad) A s H locs) (hl : lv_has ls 3 [(0, .ref (a 1)), (1, .int x1), (2, .int x2)]) : W p l e r_M_store s m args below meth c H locs 0 0 Q (F0 m 0 ls []) := by
  have hx := fx.1
  have hb := fx.2.1
  unfold f_M_store at h
  refine lv_aload_n (pc := 0) hx hb d_M_store_0 rfl (lv_at hl 0 rfl) ?_
  refine gC_1_memory (pc := 1) fx hw kw_122 d_M_store_1 ?_
  refine lv_iload_n (pc := 4) hx hb d_M_store_4 rfl (lv_at hl 1 rfl) ?_
  refine lv_sipush (pc := 5) (v := 32767) hx hb d_M_store_5 (by decide) ?_
  refine lv_iand (pc := 8) hx hb d_M_store_8 ?_
  refine lv_iload_n (pc := 9) hx hb d_M_store_9 rfl (lv_at hl 2 rfl) ?_
  refine asC_2 (pc := 10) fx hw h.1 d_M_store_10 (fun σ_1 e9 H locs hw => ?_)
  replace h := nm_u h.2 e9
  clear e9
  exact HR d_M_store_11 h hw
end
theorem c_M_store {l : Launch} {D : va_G} {cA : Nat → ClassId} {a : Nat → Nat} {ad : Nat → Nat → Nat} {σ : SS} {post : SS → Prop} {x1 : Int32} {x2 : Int32} (h : f_M_store post σ x1 x2) : mV l y_M_store b_M_store 3 none 0 0 D vcl (tyl cA) (wC cA a) (XC ad) σ [.ref (a 1), .int x1, .int x2] post := met_V (by decide) (Nat.le_of_ble_eq_true rfl) (fun p e s m args below meth c A Q fx HR H ls hw hl => e_M_store  fx HR h hw hl)
abbrev r_M_readRegister : Room := { frames := 0, cells := 0, slots := 0, locals := 0 }
def f_M_readRegister (post : Int32 → SS → Prop) (σ : SS) (x1 : Int32) : Prop := br (x1 = (4 : Int32)) (post (σ.1 0) σ) (br (x1 = (5 : Int32)) (post (σ.1 1) σ) (br (x1 = (6 : Int32)) (post (σ.1 2) σ) (br (x1 = (7 : Int32)) (br ((σ.1 4) = 0) (post 0 σ) (post 1 σ)) (br (x1 = (8 : Int32)) (post (σ.1 3) σ) (br (x1 = (9 : Int32)) (post (σ.1 6) σ) (br (x1 = (10 : Int32)) (post (σ.1 7) σ) (vp_in (x1 &&& 3) 4 ∧ post (σ.2.1 3 (x1 &&& 3).toNatClampNeg) σ)))))))
section
variable {p : Program} {l : Launch} {e : Env} {s : State} {m : MethodId} {args : Array Value} {below : List Frame} {meth : Method} {c : Code} {Q : State → Prop} {D : va_G} {cA : Nat → ClassId} {a : Nat → Nat} {ad : Nat → Nat → Nat} {A : Nat → Prop}
set_option maxHeartbeats 4000000 in
set_option maxRecDepth 100000 in
theorem e_M_readRegister (fx : CallFix p m c b_M_readRegister 2 s args GW RNM) {post : Int32 → SS → Prop} (HR : RetI p l e r_M_readRegister s m args below meth c Q D vcl (tyl cA) (wC cA a) (XC ad) A b_M_readRegister .int post) {σ : SS} {x1 : Int32} {H : Heap} {locs : List Loc} {ls : Array Slot} (h : f_M_readRegister post σ x1) (hw : CX D vcl (tyl cA) (wC cA a σ) (XC ad) A s H locs) (hl : lv_has ls 2 [(0, .ref (a 1)), (1, .int x1)]) : W p l e r_M_readRegister s m args below meth c H locs 0 0 Q (F0 m 0 ls []) := by
  have hx := fx.1
  have hb := fx.2.1
  unfold f_M_readRegister at h
  refine lv_iload_n (pc := 0) hx hb d_M_readRegister_0 rfl (lv_at hl 1 rfl) ?_
  by_cases cq_1 : x1 = (4 : Int32)
  · replace h := h.1 cq_1
    refine lv_tableIn (pc := 1) (off := 43) (tgt := 44) hx hb d_M_readRegister_1 (by rw [cq_1]; decide) (by rw [cq_1]; decide) (by rw [cq_1]; rfl) (by decide) ?_
    refine lv_aload_n (pc := 44) hx hb d_M_readRegister_44 rfl (lv_at hl 0 rfl) ?_
    refine gC_1_carry (pc := 45) fx hw kw_129 d_M_readRegister_45 ?_
    exact HR rfl d_M_readRegister_48 h hw
  replace h := h.2 cq_1
  by_cases cq_2 : x1 = (5 : Int32)
  · replace h := h.1 cq_2
    refine lv_tableIn (pc := 1) (off := 48) (tgt := 49) hx hb d_M_readRegister_1 (by rw [cq_2]; decide) (by rw [cq_2]; decide) (by rw [cq_2]; rfl) (by decide) ?_
    refine lv_aload_n (pc := 49) hx hb d_M_readRegister_49 rfl (lv_at hl 0 rfl) ?_
    refine gC_1_pc (pc := 50) fx hw kw_130 d_M_readRegister_50 ?_
    exact HR rfl d_M_readRegister_53 h hw
  replace h := h.2 cq_2
  by_cases cq_3 : x1 = (6 : Int32)
  · replace h := h.1 cq_3
    refine lv_tableIn (pc := 1) (off := 53) (tgt := 54) hx hb d_M_readRegister_1 (by rw [cq_3]; decide) (by rw [cq_3]; decide) (by rw [cq_3]; rfl) (by decide) ?_
    refine lv_aload_n (pc := 54) hx hb d_M_readRegister_54 rfl (lv_at hl 0 rfl) ?_
    refine gC_1_switches (pc := 55) fx hw kw_131 d_M_readRegister_55 ?_
    exact HR rfl d_M_readRegister_58 h hw
  replace h := h.2 cq_3
  by_cases cq_4 : x1 = (7 : Int32)
  · replace h := h.1 cq_4
    refine lv_tableIn (pc := 1) (off := 58) (tgt := 59) hx hb d_M_readRegister_1 (by rw [cq_4]; decide) (by rw [cq_4]; decide) (by rw [cq_4]; rfl) (by decide) ?_
    refine lv_aload_n (pc := 59) hx hb d_M_readRegister_59 rfl (lv_at hl 0 rfl) ?_
    refine gC_1_ion (pc := 60) fx hw kw_133 d_M_readRegister_60 ?_
    refine lv_if_eq (pc := 63) (tgt := 70) hx hb d_M_readRegister_63 (by decide) (fun c9 => ?_) (fun c9 => ?_)
    · replace h := h.1 c9
      refine lv_iconst (pc := 70) (v := 0) hx hb d_M_readRegister_70 (by decide) ?_
      exact HR rfl d_M_readRegister_71 h hw
    · replace h := h.2 c9
      refine lv_iconst (pc := 66) (v := 1) hx hb d_M_readRegister_66 (by decide) ?_
      refine lv_goto (pc := 67) (tgt := 71) hx hb d_M_readRegister_67 (by decide) ?_
      exact HR rfl d_M_readRegister_71 h hw
  replace h := h.2 cq_4
  by_cases cq_5 : x1 = (8 : Int32)
  · replace h := h.1 cq_5
    refine lv_tableIn (pc := 1) (off := 71) (tgt := 72) hx hb d_M_readRegister_1 (by rw [cq_5]; decide) (by rw [cq_5]; decide) (by rw [cq_5]; rfl) (by decide) ?_
    refine lv_aload_n (pc := 72) hx hb d_M_readRegister_72 rfl (lv_at hl 0 rfl) ?_
    refine gC_1_mask (pc := 73) fx hw kw_132 d_M_readRegister_73 ?_
    exact HR rfl d_M_readRegister_76 h hw
  replace h := h.2 cq_5
  by_cases cq_6 : x1 = (9 : Int32)
  · replace h := h.1 cq_6
    refine lv_tableIn (pc := 1) (off := 76) (tgt := 77) hx hb d_M_readRegister_1 (by rw [cq_6]; decide) (by rw [cq_6]; decide) (by rw [cq_6]; rfl) (by decide) ?_
    refine lv_aload_n (pc := 77) hx hb d_M_readRegister_77 rfl (lv_at hl 0 rfl) ?_
    refine gC_1_instructions (pc := 78) fx hw kw_135 d_M_readRegister_78 ?_
    exact HR rfl d_M_readRegister_81 h hw
  replace h := h.2 cq_6
  by_cases cq_7 : x1 = (10 : Int32)
  · replace h := h.1 cq_7
    refine lv_tableIn (pc := 1) (off := 81) (tgt := 82) hx hb d_M_readRegister_1 (by rw [cq_7]; decide) (by rw [cq_7]; decide) (by rw [cq_7]; rfl) (by decide) ?_
    refine lv_aload_n (pc := 82) hx hb d_M_readRegister_82 rfl (lv_at hl 0 rfl) ?_
    refine gC_1_interrupts (pc := 83) fx hw kw_136 d_M_readRegister_83 ?_
    exact HR rfl d_M_readRegister_86 h hw
  replace h := h.2 cq_7
  refine lv_tableOut (pc := 1) (tgt := 87) hx hb d_M_readRegister_1 (by have := lv_neT cq_1 (a := 4) (by decide); have := lv_neT cq_2 (a := 5) (by decide); have := lv_neT cq_3 (a := 6) (by decide); have := lv_neT cq_4 (a := 7) (by decide); have := lv_neT cq_5 (a := 8) (by decide); have := lv_neT cq_6 (a := 9) (by decide); have := lv_neT cq_7 (a := 10) (by decide); omega) (by decide) ?_
  refine lv_aload_n (pc := 87) hx hb d_M_readRegister_87 rfl (lv_at hl 0 rfl) ?_
  refine gC_1_accumulators (pc := 88) fx hw kw_123 d_M_readRegister_88 ?_
  refine lv_iload_n (pc := 91) hx hb d_M_readRegister_91 rfl (lv_at hl 1 rfl) ?_
  refine lv_iconst (pc := 92) (v := 3) hx hb d_M_readRegister_92 (by decide) ?_
  refine lv_iand (pc := 93) hx hb d_M_readRegister_93 ?_
  refine alC_3 (pc := 94) fx hw h.1 d_M_readRegister_94 ?_
  replace h := h.2
  exact HR rfl d_M_readRegister_95 h hw
end
theorem c_M_readRegister {l : Launch} {D : va_G} {cA : Nat → ClassId} {a : Nat → Nat} {ad : Nat → Nat → Nat} {σ : SS} {post : Int32 → SS → Prop} {x1 : Int32} (h : f_M_readRegister post σ x1) : mI l y_M_readRegister b_M_readRegister 2 (some .int) 0 0 D vcl (tyl cA) (wC cA a) (XC ad) σ [.ref (a 1), .int x1] post := met_I (by decide) (Nat.le_of_ble_eq_true rfl) (fun p e s m args below meth c A Q fx HR H ls hw hl => e_M_readRegister  fx HR h hw hl)
abbrev r_M_writeRegister : Room := { frames := 0, cells := 0, slots := 0, locals := 0 }
def f_M_writeRegister (post : SS → Prop) (σ : SS) (x1 : Int32) (x2 : Int32) : Prop := br (x1 = (4 : Int32)) (nm (sI σ 0 x2) fun σ_2 => post σ_2) (br (x1 = (5 : Int32)) (nm (sI σ 1 x2) fun σ_4 => post σ_4) (br (x1 = (6 : Int32)) (nm (sI σ 2 x2) fun σ_6 => post σ_6) (vp_in (x1 &&& 3) 4 ∧ nm (sA σ 3 (x1 &&& 3).toNatClampNeg x2) fun σ_7 => post σ_7)))
section
variable {p : Program} {l : Launch} {e : Env} {s : State} {m : MethodId} {args : Array Value} {below : List Frame} {meth : Method} {c : Code} {Q : State → Prop} {D : va_G} {cA : Nat → ClassId} {a : Nat → Nat} {ad : Nat → Nat → Nat} {A : Nat → Prop}
set_option maxHeartbeats 4000000 in
set_option maxRecDepth 100000 in
theorem e_M_writeRegister (fx : CallFix p m c b_M_writeRegister 3 s args GW RNM) {post : SS → Prop} (HR : RetV p l e r_M_writeRegister s m args below meth c Q D vcl (tyl cA) (wC cA a) (XC ad) A b_M_writeRegister post) {σ : SS} {x1 : Int32} {x2 : Int32} {H : Heap} {locs : List Loc} {ls : Array Slot} (h : f_M_writeRegister post σ x1 x2) (hw : CX D vcl (tyl cA) (wC cA a σ) (XC ad) A s H locs) (hl : lv_has ls 3 [(0, .ref (a 1)), (1, .int x1), (2, .int x2)]) : W p l e r_M_writeRegister s m args below meth c H locs 0 0 Q (F0 m 0 ls []) := by
  have hx := fx.1
  have hb := fx.2.1
  unfold f_M_writeRegister at h
  refine lv_iload_n (pc := 0) hx hb d_M_writeRegister_0 rfl (lv_at hl 1 rfl) ?_
  by_cases cq_1 : x1 = (4 : Int32)
  · replace h := h.1 cq_1
    refine lv_tableIn (pc := 1) (off := 27) (tgt := 28) hx hb d_M_writeRegister_1 (by rw [cq_1]; decide) (by rw [cq_1]; decide) (by rw [cq_1]; rfl) (by decide) ?_
    refine lv_aload_n (pc := 28) hx hb d_M_writeRegister_28 rfl (lv_at hl 0 rfl) ?_
    refine lv_iload_n (pc := 29) hx hb d_M_writeRegister_29 rfl (lv_at hl 2 rfl) ?_
    refine pC_1_carry (pc := 30) fx hw kw_129 d_M_writeRegister_30 (fun σ_2 e9 H locs hw => ?_)
    replace h := nm_u h e9
    clear e9
    refine lv_goto (pc := 33) (tgt := 61) hx hb d_M_writeRegister_33 (by decide) ?_
    exact HR d_M_writeRegister_61 h hw
  replace h := h.2 cq_1
  by_cases cq_3 : x1 = (5 : Int32)
  · replace h := h.1 cq_3
    refine lv_tableIn (pc := 1) (off := 35) (tgt := 36) hx hb d_M_writeRegister_1 (by rw [cq_3]; decide) (by rw [cq_3]; decide) (by rw [cq_3]; rfl) (by decide) ?_
    refine lv_aload_n (pc := 36) hx hb d_M_writeRegister_36 rfl (lv_at hl 0 rfl) ?_
    refine lv_iload_n (pc := 37) hx hb d_M_writeRegister_37 rfl (lv_at hl 2 rfl) ?_
    refine pC_1_pc (pc := 38) fx hw kw_130 d_M_writeRegister_38 (fun σ_4 e9 H locs hw => ?_)
    replace h := nm_u h e9
    clear e9
    refine lv_goto (pc := 41) (tgt := 61) hx hb d_M_writeRegister_41 (by decide) ?_
    exact HR d_M_writeRegister_61 h hw
  replace h := h.2 cq_3
  by_cases cq_5 : x1 = (6 : Int32)
  · replace h := h.1 cq_5
    refine lv_tableIn (pc := 1) (off := 43) (tgt := 44) hx hb d_M_writeRegister_1 (by rw [cq_5]; decide) (by rw [cq_5]; decide) (by rw [cq_5]; rfl) (by decide) ?_
    refine lv_aload_n (pc := 44) hx hb d_M_writeRegister_44 rfl (lv_at hl 0 rfl) ?_
    refine lv_iload_n (pc := 45) hx hb d_M_writeRegister_45 rfl (lv_at hl 2 rfl) ?_
    refine pC_1_switches (pc := 46) fx hw kw_131 d_M_writeRegister_46 (fun σ_6 e9 H locs hw => ?_)
    replace h := nm_u h e9
    clear e9
    refine lv_goto (pc := 49) (tgt := 61) hx hb d_M_writeRegister_49 (by decide) ?_
    exact HR d_M_writeRegister_61 h hw
  replace h := h.2 cq_5
  refine lv_tableOut (pc := 1) (tgt := 52) hx hb d_M_writeRegister_1 (by have := lv_neT cq_1 (a := 4) (by decide); have := lv_neT cq_3 (a := 5) (by decide); have := lv_neT cq_5 (a := 6) (by decide); omega) (by decide) ?_
  refine lv_aload_n (pc := 52) hx hb d_M_writeRegister_52 rfl (lv_at hl 0 rfl) ?_
  refine gC_1_accumulators (pc := 53) fx hw kw_123 d_M_writeRegister_53 ?_
  refine lv_iload_n (pc := 56) hx hb d_M_writeRegister_56 rfl (lv_at hl 1 rfl) ?_
  refine lv_iconst (pc := 57) (v := 3) hx hb d_M_writeRegister_57 (by decide) ?_
  refine lv_iand (pc := 58) hx hb d_M_writeRegister_58 ?_
  refine lv_iload_n (pc := 59) hx hb d_M_writeRegister_59 rfl (lv_at hl 2 rfl) ?_
  refine asC_3 (pc := 60) fx hw h.1 d_M_writeRegister_60 (fun σ_7 e9 H locs hw => ?_)
  replace h := nm_u h.2 e9
  clear e9
  exact HR d_M_writeRegister_61 h hw
end
theorem c_M_writeRegister {l : Launch} {D : va_G} {cA : Nat → ClassId} {a : Nat → Nat} {ad : Nat → Nat → Nat} {σ : SS} {post : SS → Prop} {x1 : Int32} {x2 : Int32} (h : f_M_writeRegister post σ x1 x2) : mV l y_M_writeRegister b_M_writeRegister 3 none 0 0 D vcl (tyl cA) (wC cA a) (XC ad) σ [.ref (a 1), .int x1, .int x2] post := met_V (by decide) (Nat.le_of_ble_eq_true rfl) (fun p e s m args below meth c A Q fx HR H ls hw hl => e_M_writeRegister  fx HR h hw hl)
abbrev r_M_deviceAt : Room := { frames := 0, cells := 0, slots := 0, locals := 0 }
def f_M_deviceAt (post : Nat → SS → Prop) (σ : SS) (x1 : Int32) : Prop := nm (x1 - 8) fun x2_1 => br (x2_1 < 0) (post 3 σ) (br (3 ≤ x2_1) (post 3 σ) (vp_in x2_1 3 ∧ br (x2_1 = 0) (post 0 σ) (br (x2_1 = 1) (post 1 σ) (post 2 σ))))
section
variable {p : Program} {l : Launch} {e : Env} {s : State} {m : MethodId} {args : Array Value} {below : List Frame} {meth : Method} {c : Code} {Q : State → Prop} {D : va_G} {cA : Nat → ClassId} {a : Nat → Nat} {ad : Nat → Nat → Nat} {A : Nat → Prop}
set_option maxHeartbeats 4000000 in
set_option maxRecDepth 100000 in
theorem e_M_deviceAt (fx : CallFix p m c b_M_deviceAt 3 s args GW RNM) {post : Nat → SS → Prop} (HR : RetN p l e r_M_deviceAt s m args below meth c Q D vcl (tyl cA) (wC cA a) (XC ad) A b_M_deviceAt (dvv a) post) {σ : SS} {x1 : Int32} {H : Heap} {locs : List Loc} {ls : Array Slot} (h : f_M_deviceAt post σ x1) (hw : CX D vcl (tyl cA) (wC cA a σ) (XC ad) A s H locs) (hl : lv_has ls 3 [(0, .ref (a 1)), (1, .int x1)]) : W p l e r_M_deviceAt s m args below meth c H locs 0 0 Q (F0 m 0 ls []) := by
  have hx := fx.1
  have hb := fx.2.1
  unfold f_M_deviceAt at h
  refine lv_iload_n (pc := 0) hx hb d_M_deviceAt_0 rfl (lv_at hl 1 rfl) ?_
  refine lv_bipush (pc := 1) (v := 8) hx hb d_M_deviceAt_1 (by decide) ?_
  refine lv_isub (pc := 3) hx hb d_M_deviceAt_3 ?_
  refine lv_topi (fun x2_1 e9 => ?_)
  replace h := nm_u h e9
  clear e9
  refine lv_istore_n (pc := 4) (lv' := [(2, .int x2_1), (0, .ref (a 1)), (1, .int x1)]) hx hb d_M_deviceAt_4 rfl hl (by decide) rfl (fun ls hl => ?_)
  refine lv_iload_n (pc := 5) hx hb d_M_deviceAt_5 rfl (lv_at hl 0 rfl) ?_
  refine lv_if_lt (pc := 6) (tgt := 27) hx hb d_M_deviceAt_6 (by decide) (fun c9 => ?_) (fun c9 => ?_)
  · replace h := h.1 c9
    refine lv_null (pc := 27) hx hb d_M_deviceAt_27 ?_
    exact HR (r := 3) d_M_deviceAt_28 h hw
  · replace h := h.2 c9
    refine lv_iload_n (pc := 9) hx hb d_M_deviceAt_9 rfl (lv_at hl 0 rfl) ?_
    refine lv_aload_n (pc := 10) hx hb d_M_deviceAt_10 rfl (lv_at hl 1 rfl) ?_
    refine gC_1_devices (pc := 11) fx hw kw_128 d_M_deviceAt_11 ?_
    refine anC_9 (pc := 14) fx hw d_M_deviceAt_14 ?_
    refine lv_icmp_ge (pc := 15) (tgt := 27) hx hb d_M_deviceAt_15 (by decide) (fun c9 => ?_) (fun c9 => ?_)
    · replace h := h.1 c9
      refine lv_null (pc := 27) hx hb d_M_deviceAt_27 ?_
      exact HR (r := 3) d_M_deviceAt_28 h hw
    · replace h := h.2 c9
      refine lv_aload_n (pc := 18) hx hb d_M_deviceAt_18 rfl (lv_at hl 1 rfl) ?_
      refine gC_1_devices (pc := 19) fx hw kw_128 d_M_deviceAt_19 ?_
      refine lv_iload_n (pc := 22) hx hb d_M_deviceAt_22 rfl (lv_at hl 0 rfl) ?_
      have v9 := h.1
      replace h := h.2
      by_cases cd_2 : x2_1 = 0
      · replace h := h.1 cd_2
        refine aaC_9_0 (pc := 23) fx hw cd_2 d_M_deviceAt_23 ?_
        refine lv_goto (pc := 24) (tgt := 28) hx hb d_M_deviceAt_24 (by decide) ?_
        exact HR (r := 0) d_M_deviceAt_28 h hw
      replace h := h.2 cd_2
      by_cases cd_3 : x2_1 = 1
      · replace h := h.1 cd_3
        refine aaC_9_1 (pc := 23) fx hw cd_3 d_M_deviceAt_23 ?_
        refine lv_goto (pc := 24) (tgt := 28) hx hb d_M_deviceAt_24 (by decide) ?_
        exact HR (r := 1) d_M_deviceAt_28 h hw
      replace h := h.2 cd_3
      have cd_4 := dv_2 v9 cd_2 cd_3
      refine aaC_9_2 (pc := 23) fx hw cd_4 d_M_deviceAt_23 ?_
      refine lv_goto (pc := 24) (tgt := 28) hx hb d_M_deviceAt_24 (by decide) ?_
      exact HR (r := 2) d_M_deviceAt_28 h hw
end
theorem c_M_deviceAt {l : Launch} {D : va_G} {cA : Nat → ClassId} {a : Nat → Nat} {ad : Nat → Nat → Nat} {σ : SS} {post : Nat → SS → Prop} {x1 : Int32} (h : f_M_deviceAt post σ x1) : mN (dvv a) l y_M_deviceAt b_M_deviceAt 3 (some (.object "NovaDesk$Device")) 0 0 D vcl (tyl cA) (wC cA a) (XC ad) σ [.ref (a 1), .int x1] post := met_N (dvv_ok a) (by decide) (Nat.le_of_ble_eq_true rfl) (fun p e s m args below meth c A Q fx HR H ls hw hl => e_M_deviceAt  fx HR h hw hl)
abbrev r_M_readDevice : Room := { frames := 1, cells := 0, slots := 0, locals := 22 }
def f_M_readDevice (post : Int32 → SS → Prop) (σ : SS) (x1 : Int32) (x2 : Int32) : Prop := f_M_deviceAt (fun r_2 σ_1 => br (r_2 = 0) (br (x2 = (0 : Int32)) (post (σ_1.1 9) σ_1) (br (x2 = (1 : Int32)) (br ((σ_1.1 10) = 0) (post 0 σ_1) (post 1 σ_1)) (br ((σ_1.1 11) = 0) (post 0 σ_1) (post 1 σ_1)))) (br (r_2 = 1) (br (x2 = (0 : Int32)) (post (σ_1.1 15) σ_1) (br (x2 = (1 : Int32)) (br ((σ_1.1 16) = 0) (post 0 σ_1) (post 1 σ_1)) (br ((σ_1.1 17) = 0) (post 0 σ_1) (post 1 σ_1)))) (br (r_2 = 2) (br (x2 = (0 : Int32)) (post (σ_1.1 20) σ_1) (br (x2 = (1 : Int32)) (br ((σ_1.1 21) = 0) (post 0 σ_1) (post 1 σ_1)) (br ((σ_1.1 22) = 0) (post 0 σ_1) (post 1 σ_1)))) (post 0 σ_1)))) σ x1
section
variable {p : Program} {l : Launch} {e : Env} {s : State} {m : MethodId} {args : Array Value} {below : List Frame} {meth : Method} {c : Code} {Q : State → Prop} {D : va_G} {cA : Nat → ClassId} {a : Nat → Nat} {ad : Nat → Nat → Nat} {A : Nat → Prop}
set_option maxHeartbeats 4000000 in
set_option maxRecDepth 100000 in
theorem e_M_readDevice (fx : CallFix p m c b_M_readDevice 4 s args GW RNM) {post : Int32 → SS → Prop} (HR : RetI p l e r_M_readDevice s m args below meth c Q D vcl (tyl cA) (wC cA a) (XC ad) A b_M_readDevice .int post) {σ : SS} {x1 : Int32} {x2 : Int32} {H : Heap} {locs : List Loc} {ls : Array Slot} (h : f_M_readDevice post σ x1 x2) (hw : CX D vcl (tyl cA) (wC cA a σ) (XC ad) A s H locs) (hl : lv_has ls 4 [(0, .ref (a 1)), (1, .int x1), (2, .int x2)]) : W p l e r_M_readDevice s m args below meth c H locs 0 0 Q (F0 m 0 ls []) := by
  have hx := fx.1
  have hb := fx.2.1
  unfold f_M_readDevice at h
  refine lv_aload_n (pc := 0) hx hb d_M_readDevice_0 rfl (lv_at hl 0 rfl) ?_
  refine lv_iload_n (pc := 1) hx hb d_M_readDevice_1 rfl (lv_at hl 1 rfl) ?_
  refine rsN (pc := 2) hw (rnV (pc := 2) xtC fx hw (c_M_deviceAt h _) cw_M_65 (rcC_1 hw) rfl ⟨Nat.le_of_ble_eq_true rfl, Nat.le_of_ble_eq_true rfl⟩ hl.1 (Nat.le_of_ble_eq_true rfl) d_M_readDevice_2 ⟨Nat.zero_le _, Nat.zero_le _⟩) (fun r_2 σ_1 H locs hw h => ?_)
  refine dv_s (fun c0 => ?_) (fun c0 c1 => ?_) (fun c0 c1 c2 => ?_) (fun c0 c1 c2 => ?_)
  · replace h := h.1 c0
    refine lv_astore_n (pc := 5) (lv' := [(3, .ref (a 4)), (0, .ref (a 1)), (1, .int x1), (2, .int x2)]) hx hb d_M_readDevice_5 rfl hl (by decide) rfl (fun ls hl => ?_)
    refine lv_aload_n (pc := 6) hx hb d_M_readDevice_6 rfl (lv_at hl 0 rfl) ?_
    refine lv_ifnonnull (pc := 7) (tgt := 12) hx hb d_M_readDevice_7 (by decide) ?_
    refine lv_iload_n (pc := 12) hx hb d_M_readDevice_12 rfl (lv_at hl 3 rfl) ?_
    by_cases cq_3 : x2 = (0 : Int32)
    · replace h := h.1 cq_3
      refine lv_lookup (pc := 13) (off := 27) (tgt := 40) hx hb d_M_readDevice_13 (by decide) (by rw [cq_3]; decide) (by decide) ?_
      refine lv_aload_n (pc := 40) hx hb d_M_readDevice_40 rfl (lv_at hl 0 rfl) ?_
      refine gC_4_held (pc := 41) fx hw kw_60 d_M_readDevice_41 ?_
      exact HR rfl d_M_readDevice_44 h hw
    replace h := h.2 cq_3
    by_cases cq_4 : x2 = (1 : Int32)
    · replace h := h.1 cq_4
      refine lv_lookup (pc := 13) (off := 32) (tgt := 45) hx hb d_M_readDevice_13 (by decide) (by rw [cq_4]; decide) (by decide) ?_
      refine lv_aload_n (pc := 45) hx hb d_M_readDevice_45 rfl (lv_at hl 0 rfl) ?_
      refine gC_4_busy (pc := 46) fx hw kw_63 d_M_readDevice_46 ?_
      refine lv_if_eq (pc := 49) (tgt := 56) hx hb d_M_readDevice_49 (by decide) (fun c9 => ?_) (fun c9 => ?_)
      · replace h := h.1 c9
        refine lv_iconst (pc := 56) (v := 0) hx hb d_M_readDevice_56 (by decide) ?_
        exact HR rfl d_M_readDevice_57 h hw
      · replace h := h.2 c9
        refine lv_iconst (pc := 52) (v := 1) hx hb d_M_readDevice_52 (by decide) ?_
        refine lv_goto (pc := 53) (tgt := 57) hx hb d_M_readDevice_53 (by decide) ?_
        exact HR rfl d_M_readDevice_57 h hw
    replace h := h.2 cq_4
    refine lv_lookup (pc := 13) (off := 45) (tgt := 58) hx hb d_M_readDevice_13 (by decide) (by rw [lv_osw cq_3 (by decide), lv_osw cq_4 (by decide)]; rfl) (by decide) ?_
    refine lv_aload_n (pc := 58) hx hb d_M_readDevice_58 rfl (lv_at hl 0 rfl) ?_
    refine gC_4_done (pc := 59) fx hw kw_65 d_M_readDevice_59 ?_
    refine lv_if_eq (pc := 62) (tgt := 69) hx hb d_M_readDevice_62 (by decide) (fun c9 => ?_) (fun c9 => ?_)
    · replace h := h.1 c9
      refine lv_iconst (pc := 69) (v := 0) hx hb d_M_readDevice_69 (by decide) ?_
      exact HR rfl d_M_readDevice_70 h hw
    · replace h := h.2 c9
      refine lv_iconst (pc := 65) (v := 1) hx hb d_M_readDevice_65 (by decide) ?_
      refine lv_goto (pc := 66) (tgt := 70) hx hb d_M_readDevice_66 (by decide) ?_
      exact HR rfl d_M_readDevice_70 h hw
  · replace h := (h.2 c0).1 c1
    refine lv_astore_n (pc := 5) (lv' := [(3, .ref (a 6)), (0, .ref (a 1)), (1, .int x1), (2, .int x2)]) hx hb d_M_readDevice_5 rfl hl (by decide) rfl (fun ls hl => ?_)
    refine lv_aload_n (pc := 6) hx hb d_M_readDevice_6 rfl (lv_at hl 0 rfl) ?_
    refine lv_ifnonnull (pc := 7) (tgt := 12) hx hb d_M_readDevice_7 (by decide) ?_
    refine lv_iload_n (pc := 12) hx hb d_M_readDevice_12 rfl (lv_at hl 3 rfl) ?_
    by_cases cq_5 : x2 = (0 : Int32)
    · replace h := h.1 cq_5
      refine lv_lookup (pc := 13) (off := 27) (tgt := 40) hx hb d_M_readDevice_13 (by decide) (by rw [cq_5]; decide) (by decide) ?_
      refine lv_aload_n (pc := 40) hx hb d_M_readDevice_40 rfl (lv_at hl 0 rfl) ?_
      refine gC_6_held (pc := 41) fx hw kw_60 d_M_readDevice_41 ?_
      exact HR rfl d_M_readDevice_44 h hw
    replace h := h.2 cq_5
    by_cases cq_6 : x2 = (1 : Int32)
    · replace h := h.1 cq_6
      refine lv_lookup (pc := 13) (off := 32) (tgt := 45) hx hb d_M_readDevice_13 (by decide) (by rw [cq_6]; decide) (by decide) ?_
      refine lv_aload_n (pc := 45) hx hb d_M_readDevice_45 rfl (lv_at hl 0 rfl) ?_
      refine gC_6_busy (pc := 46) fx hw kw_63 d_M_readDevice_46 ?_
      refine lv_if_eq (pc := 49) (tgt := 56) hx hb d_M_readDevice_49 (by decide) (fun c9 => ?_) (fun c9 => ?_)
      · replace h := h.1 c9
        refine lv_iconst (pc := 56) (v := 0) hx hb d_M_readDevice_56 (by decide) ?_
        exact HR rfl d_M_readDevice_57 h hw
      · replace h := h.2 c9
        refine lv_iconst (pc := 52) (v := 1) hx hb d_M_readDevice_52 (by decide) ?_
        refine lv_goto (pc := 53) (tgt := 57) hx hb d_M_readDevice_53 (by decide) ?_
        exact HR rfl d_M_readDevice_57 h hw
    replace h := h.2 cq_6
    refine lv_lookup (pc := 13) (off := 45) (tgt := 58) hx hb d_M_readDevice_13 (by decide) (by rw [lv_osw cq_5 (by decide), lv_osw cq_6 (by decide)]; rfl) (by decide) ?_
    refine lv_aload_n (pc := 58) hx hb d_M_readDevice_58 rfl (lv_at hl 0 rfl) ?_
    refine gC_6_done (pc := 59) fx hw kw_65 d_M_readDevice_59 ?_
    refine lv_if_eq (pc := 62) (tgt := 69) hx hb d_M_readDevice_62 (by decide) (fun c9 => ?_) (fun c9 => ?_)
    · replace h := h.1 c9
      refine lv_iconst (pc := 69) (v := 0) hx hb d_M_readDevice_69 (by decide) ?_
      exact HR rfl d_M_readDevice_70 h hw
    · replace h := h.2 c9
      refine lv_iconst (pc := 65) (v := 1) hx hb d_M_readDevice_65 (by decide) ?_
      refine lv_goto (pc := 66) (tgt := 70) hx hb d_M_readDevice_66 (by decide) ?_
      exact HR rfl d_M_readDevice_70 h hw
  · replace h := ((h.2 c0).2 c1).1 c2
    refine lv_astore_n (pc := 5) (lv' := [(3, .ref (a 8)), (0, .ref (a 1)), (1, .int x1), (2, .int x2)]) hx hb d_M_readDevice_5 rfl hl (by decide) rfl (fun ls hl => ?_)
    refine lv_aload_n (pc := 6) hx hb d_M_readDevice_6 rfl (lv_at hl 0 rfl) ?_
    refine lv_ifnonnull (pc := 7) (tgt := 12) hx hb d_M_readDevice_7 (by decide) ?_
    refine lv_iload_n (pc := 12) hx hb d_M_readDevice_12 rfl (lv_at hl 3 rfl) ?_
    by_cases cq_7 : x2 = (0 : Int32)
    · replace h := h.1 cq_7
      refine lv_lookup (pc := 13) (off := 27) (tgt := 40) hx hb d_M_readDevice_13 (by decide) (by rw [cq_7]; decide) (by decide) ?_
      refine lv_aload_n (pc := 40) hx hb d_M_readDevice_40 rfl (lv_at hl 0 rfl) ?_
      refine gC_8_held (pc := 41) fx hw kw_60 d_M_readDevice_41 ?_
      exact HR rfl d_M_readDevice_44 h hw
    replace h := h.2 cq_7
    by_cases cq_8 : x2 = (1 : Int32)
    · replace h := h.1 cq_8
      refine lv_lookup (pc := 13) (off := 32) (tgt := 45) hx hb d_M_readDevice_13 (by decide) (by rw [cq_8]; decide) (by decide) ?_
      refine lv_aload_n (pc := 45) hx hb d_M_readDevice_45 rfl (lv_at hl 0 rfl) ?_
      refine gC_8_busy (pc := 46) fx hw kw_63 d_M_readDevice_46 ?_
      refine lv_if_eq (pc := 49) (tgt := 56) hx hb d_M_readDevice_49 (by decide) (fun c9 => ?_) (fun c9 => ?_)
      · replace h := h.1 c9
        refine lv_iconst (pc := 56) (v := 0) hx hb d_M_readDevice_56 (by decide) ?_
        exact HR rfl d_M_readDevice_57 h hw
      · replace h := h.2 c9
        refine lv_iconst (pc := 52) (v := 1) hx hb d_M_readDevice_52 (by decide) ?_
        refine lv_goto (pc := 53) (tgt := 57) hx hb d_M_readDevice_53 (by decide) ?_
        exact HR rfl d_M_readDevice_57 h hw
    replace h := h.2 cq_8
    refine lv_lookup (pc := 13) (off := 45) (tgt := 58) hx hb d_M_readDevice_13 (by decide) (by rw [lv_osw cq_7 (by decide), lv_osw cq_8 (by decide)]; rfl) (by decide) ?_
    refine lv_aload_n (pc := 58) hx hb d_M_readDevice_58 rfl (lv_at hl 0 rfl) ?_
    refine gC_8_done (pc := 59) fx hw kw_65 d_M_readDevice_59 ?_
    refine lv_if_eq (pc := 62) (tgt := 69) hx hb d_M_readDevice_62 (by decide) (fun c9 => ?_) (fun c9 => ?_)
    · replace h := h.1 c9
      refine lv_iconst (pc := 69) (v := 0) hx hb d_M_readDevice_69 (by decide) ?_
      exact HR rfl d_M_readDevice_70 h hw
    · replace h := h.2 c9
      refine lv_iconst (pc := 65) (v := 1) hx hb d_M_readDevice_65 (by decide) ?_
      refine lv_goto (pc := 66) (tgt := 70) hx hb d_M_readDevice_66 (by decide) ?_
      exact HR rfl d_M_readDevice_70 h hw
  · replace h := ((h.2 c0).2 c1).2 c2
    refine lv_astore_nN (pc := 5) (lv' := [(3, .null), (0, .ref (a 1)), (1, .int x1), (2, .int x2)]) hx hb d_M_readDevice_5 rfl hl (by decide) rfl (fun ls hl => ?_)
    refine lv_aload_nN (pc := 6) hx hb d_M_readDevice_6 rfl (lv_at hl 0 rfl) ?_
    refine lv_ifnonnullN (pc := 7) hx hb d_M_readDevice_7 ?_
    refine lv_iconst (pc := 10) (v := 0) hx hb d_M_readDevice_10 (by decide) ?_
    exact HR rfl d_M_readDevice_11 h hw
end
theorem c_M_readDevice {l : Launch} {D : va_G} {cA : Nat → ClassId} {a : Nat → Nat} {ad : Nat → Nat → Nat} {σ : SS} {post : Int32 → SS → Prop} {x1 : Int32} {x2 : Int32} (h : f_M_readDevice post σ x1 x2) : mI l y_M_readDevice b_M_readDevice 4 (some .int) 1 22 D vcl (tyl cA) (wC cA a) (XC ad) σ [.ref (a 1), .int x1, .int x2] post := met_I (by decide) (Nat.le_of_ble_eq_true rfl) (fun p e s m args below meth c A Q fx HR H ls hw hl => e_M_readDevice  fx HR h hw hl)
abbrev r_D_stop_4 : Room := { frames := 0, cells := 0, slots := 0, locals := 0 }
def f_D_stop_4 (post : SS → Prop) (σ : SS) : Prop := nm (sI σ 10 0) fun σ_1 => nm (sI σ_1 11 0) fun σ_2 => post σ_2
section
variable {p : Program} {l : Launch} {e : Env} {s : State} {m : MethodId} {args : Array Value} {below : List Frame} {meth : Method} {c : Code} {Q : State → Prop} {D : va_G} {cA : Nat → ClassId} {a : Nat → Nat} {ad : Nat → Nat → Nat} {A : Nat → Prop}
set_option maxHeartbeats 4000000 in
set_option maxRecDepth 100000 in
theorem e_D_stop_4 (fx : CallFix p m c b_D_stop 1 s args GW "NovaDesk$Device") {post : SS → Prop} (HR : RetV p l e r_D_stop_4 s m args below meth c Q D vcl (tyl cA) (wC cA a) (XC ad) A b_D_stop post) {σ : SS} {H : Heap} {locs : List Loc} {ls : Array Slot} (h : f_D_stop_4 post σ) (hw : CX D vcl (tyl cA) (wC cA a σ) (XC ad) A s H locs) (hl : lv_has ls 1 [(0, .ref (a 4))]) : W p l e r_D_stop_4 s m args below meth c H locs 0 0 Q (F0 m 0 ls []) := by
  have hx := fx.1
  have hb := fx.2.1
  unfold f_D_stop_4 at h
  refine lv_aload_n (pc := 0) hx hb d_D_stop_0 rfl (lv_at hl 0 rfl) ?_
  refine lv_iconst (pc := 1) (v := 0) hx hb d_D_stop_1 (by decide) ?_
  refine pC_4_busy (pc := 2) fx hw kw_62 bz_0 d_D_stop_2 (fun σ_1 e9 H locs hw => ?_)
  replace h := nm_u h e9
  clear e9
  refine lv_aload_n (pc := 5) hx hb d_D_stop_5 rfl (lv_at hl 0 rfl) ?_
  refine lv_iconst (pc := 6) (v := 0) hx hb d_D_stop_6 (by decide) ?_
  refine pC_4_done (pc := 7) fx hw kw_64 bz_0 d_D_stop_7 (fun σ_2 e9 H locs hw => ?_)
  replace h := nm_u h e9
  clear e9
  exact HR d_D_stop_10 h hw
end
theorem c_D_stop_4 {l : Launch} {D : va_G} {cA : Nat → ClassId} {a : Nat → Nat} {ad : Nat → Nat → Nat} {σ : SS} {post : SS → Prop} (h : f_D_stop_4 post σ) : mV l y_D_stop b_D_stop 1 none 0 0 D vcl (tyl cA) (wC cA a) (XC ad) σ [.ref (a 4)] post := met_V (by decide) (Nat.le_of_ble_eq_true rfl) (fun p e s m args below meth c A Q fx HR H ls hw hl => e_D_stop_4  fx HR h hw hl)
abbrev r_D_clear_4 : Room := { frames := 1, cells := 0, slots := 0, locals := 20 }
def f_D_clear_4 (post : SS → Prop) (σ : SS) : Prop := f_D_stop_4 (fun σ_1 => nm (sI σ_1 9 0) fun σ_3 => nm (sI σ_3 12 0) fun σ_4 => post σ_4) σ
section
variable {p : Program} {l : Launch} {e : Env} {s : State} {m : MethodId} {args : Array Value} {below : List Frame} {meth : Method} {c : Code} {Q : State → Prop} {D : va_G} {cA : Nat → ClassId} {a : Nat → Nat} {ad : Nat → Nat → Nat} {A : Nat → Prop}
set_option maxHeartbeats 4000000 in
set_option maxRecDepth 100000 in
theorem e_D_clear_4 (fx : CallFix p m c b_D_clear 1 s args GW "NovaDesk$Device") {post : SS → Prop} (HR : RetV p l e r_D_clear_4 s m args below meth c Q D vcl (tyl cA) (wC cA a) (XC ad) A b_D_clear post) {σ : SS} {H : Heap} {locs : List Loc} {ls : Array Slot} (h : f_D_clear_4 post σ) (hw : CX D vcl (tyl cA) (wC cA a σ) (XC ad) A s H locs) (hl : lv_has ls 1 [(0, .ref (a 4))]) : W p l e r_D_clear_4 s m args below meth c H locs 0 0 Q (F0 m 0 ls []) := by
  have hx := fx.1
  have hb := fx.2.1
  unfold f_D_clear_4 at h
  refine lv_aload_n (pc := 0) hx hb d_D_clear_0 rfl (lv_at hl 0 rfl) ?_
  refine rsV (pc := 1) hw (rnU (pc := 1) xtC fx hw (c_D_stop_4 h _) cw_D_30_E (decl_c fx kw_328 kw_333) (rcC_4 hw) rfl ⟨Nat.le_of_ble_eq_true rfl, Nat.le_of_ble_eq_true rfl⟩ hl.1 (Nat.le_of_ble_eq_true rfl) d_D_clear_1 ⟨Nat.zero_le _, Nat.zero_le _⟩) (fun σ_1 H locs hw h => ?_)
  refine lv_aload_n (pc := 4) hx hb d_D_clear_4 rfl (lv_at hl 0 rfl) ?_
  refine lv_iconst (pc := 5) (v := 0) hx hb d_D_clear_5 (by decide) ?_
  refine pC_4_held (pc := 6) fx hw kw_61 d_D_clear_6 (fun σ_3 e9 H locs hw => ?_)
  replace h := nm_u h e9
  clear e9
  refine lv_aload_n (pc := 9) hx hb d_D_clear_9 rfl (lv_at hl 0 rfl) ?_
  refine lv_iconst (pc := 10) (v := 0) hx hb d_D_clear_10 (by decide) ?_
  refine pC_4_ticks (pc := 11) fx hw kw_66 d_D_clear_11 (fun σ_4 e9 H locs hw => ?_)
  replace h := nm_u h e9
  clear e9
  exact HR d_D_clear_14 h hw
end
theorem c_D_clear_4 {l : Launch} {D : va_G} {cA : Nat → ClassId} {a : Nat → Nat} {ad : Nat → Nat → Nat} {σ : SS} {post : SS → Prop} (h : f_D_clear_4 post σ) : mV l y_D_clear b_D_clear 1 none 1 20 D vcl (tyl cA) (wC cA a) (XC ad) σ [.ref (a 4)] post := met_V (by decide) (Nat.le_of_ble_eq_true rfl) (fun p e s m args below meth c A Q fx HR H ls hw hl => e_D_clear_4  fx HR h hw hl)
abbrev r_E_clear : Room := { frames := 2, cells := 0, slots := 0, locals := 40 }
def f_E_clear (post : SS → Prop) (σ : SS) : Prop := f_D_clear_4 (fun σ_1 => nm (sI σ_1 14 0) fun σ_3 => post σ_3) σ
section
variable {p : Program} {l : Launch} {e : Env} {s : State} {m : MethodId} {args : Array Value} {below : List Frame} {meth : Method} {c : Code} {Q : State → Prop} {D : va_G} {cA : Nat → ClassId} {a : Nat → Nat} {ad : Nat → Nat → Nat} {A : Nat → Prop}
set_option maxHeartbeats 4000000 in
set_option maxRecDepth 100000 in
theorem e_E_clear (fx : CallFix p m c b_E_clear 1 s args GW RNE) {post : SS → Prop} (HR : RetV p l e r_E_clear s m args below meth c Q D vcl (tyl cA) (wC cA a) (XC ad) A b_E_clear post) {σ : SS} {H : Heap} {locs : List Loc} {ls : Array Slot} (h : f_E_clear post σ) (hw : CX D vcl (tyl cA) (wC cA a σ) (XC ad) A s H locs) (hl : lv_has ls 1 [(0, .ref (a 4))]) : W p l e r_E_clear s m args below meth c H locs 0 0 Q (F0 m 0 ls []) := by
  have hx := fx.1
  have hb := fx.2.1
  unfold f_E_clear at h
  refine lv_aload_n (pc := 0) hx hb d_E_clear_0 rfl (lv_at hl 0 rfl) ?_
  refine rsV (pc := 1) hw (rnP (pc := 1) (hw.1.1 7 _ rfl).2 xtC fx hw (c_D_clear_4 h _) cw_E_25 (rcC_4 hw) rfl ⟨Nat.le_of_ble_eq_true rfl, Nat.le_of_ble_eq_true rfl⟩ hl.1 (Nat.le_of_ble_eq_true rfl) d_E_clear_1 ⟨Nat.zero_le _, Nat.zero_le _⟩) (fun σ_1 H locs hw h => ?_)
  refine lv_aload_n (pc := 4) hx hb d_E_clear_4 rfl (lv_at hl 0 rfl) ?_
  refine lv_iconst (pc := 5) (v := 0) hx hb d_E_clear_5 (by decide) ?_
  refine pC_4_waiting (pc := 6) fx hw kw_52 d_E_clear_6 (fun σ_3 e9 H locs hw => ?_)
  replace h := nm_u h e9
  clear e9
  exact HR d_E_clear_9 h hw
end
theorem c_E_clear {l : Launch} {D : va_G} {cA : Nat → ClassId} {a : Nat → Nat} {ad : Nat → Nat → Nat} {σ : SS} {post : SS → Prop} (h : f_E_clear post σ) : mV l y_E_clear b_E_clear 1 none 2 40 D vcl (tyl cA) (wC cA a) (XC ad) σ [.ref (a 4)] post := met_V (by decide) (Nat.le_of_ble_eq_true rfl) (fun p e s m args below meth c A Q fx HR H ls hw hl => e_E_clear  fx HR h hw hl)
abbrev r_D_stop_6 : Room := { frames := 0, cells := 0, slots := 0, locals := 0 }
def f_D_stop_6 (post : SS → Prop) (σ : SS) : Prop := nm (sI σ 16 0) fun σ_1 => nm (sI σ_1 17 0) fun σ_2 => post σ_2
section
variable {p : Program} {l : Launch} {e : Env} {s : State} {m : MethodId} {args : Array Value} {below : List Frame} {meth : Method} {c : Code} {Q : State → Prop} {D : va_G} {cA : Nat → ClassId} {a : Nat → Nat} {ad : Nat → Nat → Nat} {A : Nat → Prop}
set_option maxHeartbeats 4000000 in
set_option maxRecDepth 100000 in
theorem e_D_stop_6 (fx : CallFix p m c b_D_stop 1 s args GW "NovaDesk$Device") {post : SS → Prop} (HR : RetV p l e r_D_stop_6 s m args below meth c Q D vcl (tyl cA) (wC cA a) (XC ad) A b_D_stop post) {σ : SS} {H : Heap} {locs : List Loc} {ls : Array Slot} (h : f_D_stop_6 post σ) (hw : CX D vcl (tyl cA) (wC cA a σ) (XC ad) A s H locs) (hl : lv_has ls 1 [(0, .ref (a 6))]) : W p l e r_D_stop_6 s m args below meth c H locs 0 0 Q (F0 m 0 ls []) := by
  have hx := fx.1
  have hb := fx.2.1
  unfold f_D_stop_6 at h
  refine lv_aload_n (pc := 0) hx hb d_D_stop_0 rfl (lv_at hl 0 rfl) ?_
  refine lv_iconst (pc := 1) (v := 0) hx hb d_D_stop_1 (by decide) ?_
  refine pC_6_busy (pc := 2) fx hw kw_62 bz_0 d_D_stop_2 (fun σ_1 e9 H locs hw => ?_)
  replace h := nm_u h e9
  clear e9
  refine lv_aload_n (pc := 5) hx hb d_D_stop_5 rfl (lv_at hl 0 rfl) ?_
  refine lv_iconst (pc := 6) (v := 0) hx hb d_D_stop_6 (by decide) ?_
  refine pC_6_done (pc := 7) fx hw kw_64 bz_0 d_D_stop_7 (fun σ_2 e9 H locs hw => ?_)
  replace h := nm_u h e9
  clear e9
  exact HR d_D_stop_10 h hw
end
theorem c_D_stop_6 {l : Launch} {D : va_G} {cA : Nat → ClassId} {a : Nat → Nat} {ad : Nat → Nat → Nat} {σ : SS} {post : SS → Prop} (h : f_D_stop_6 post σ) : mV l y_D_stop b_D_stop 1 none 0 0 D vcl (tyl cA) (wC cA a) (XC ad) σ [.ref (a 6)] post := met_V (by decide) (Nat.le_of_ble_eq_true rfl) (fun p e s m args below meth c A Q fx HR H ls hw hl => e_D_stop_6  fx HR h hw hl)
abbrev r_D_clear_6 : Room := { frames := 1, cells := 0, slots := 0, locals := 20 }
def f_D_clear_6 (post : SS → Prop) (σ : SS) : Prop := f_D_stop_6 (fun σ_1 => nm (sI σ_1 15 0) fun σ_3 => nm (sI σ_3 18 0) fun σ_4 => post σ_4) σ
section
variable {p : Program} {l : Launch} {e : Env} {s : State} {m : MethodId} {args : Array Value} {below : List Frame} {meth : Method} {c : Code} {Q : State → Prop} {D : va_G} {cA : Nat → ClassId} {a : Nat → Nat} {ad : Nat → Nat → Nat} {A : Nat → Prop}
set_option maxHeartbeats 4000000 in
set_option maxRecDepth 100000 in
theorem e_D_clear_6 (fx : CallFix p m c b_D_clear 1 s args GW "NovaDesk$Device") {post : SS → Prop} (HR : RetV p l e r_D_clear_6 s m args below meth c Q D vcl (tyl cA) (wC cA a) (XC ad) A b_D_clear post) {σ : SS} {H : Heap} {locs : List Loc} {ls : Array Slot} (h : f_D_clear_6 post σ) (hw : CX D vcl (tyl cA) (wC cA a σ) (XC ad) A s H locs) (hl : lv_has ls 1 [(0, .ref (a 6))]) : W p l e r_D_clear_6 s m args below meth c H locs 0 0 Q (F0 m 0 ls []) := by
  have hx := fx.1
  have hb := fx.2.1
  unfold f_D_clear_6 at h
  refine lv_aload_n (pc := 0) hx hb d_D_clear_0 rfl (lv_at hl 0 rfl) ?_
  refine rsV (pc := 1) hw (rnU (pc := 1) xtC fx hw (c_D_stop_6 h _) cw_D_30_P (decl_c fx kw_328 kw_333) (rcC_6 hw) rfl ⟨Nat.le_of_ble_eq_true rfl, Nat.le_of_ble_eq_true rfl⟩ hl.1 (Nat.le_of_ble_eq_true rfl) d_D_clear_1 ⟨Nat.zero_le _, Nat.zero_le _⟩) (fun σ_1 H locs hw h => ?_)
  refine lv_aload_n (pc := 4) hx hb d_D_clear_4 rfl (lv_at hl 0 rfl) ?_
  refine lv_iconst (pc := 5) (v := 0) hx hb d_D_clear_5 (by decide) ?_
  refine pC_6_held (pc := 6) fx hw kw_61 d_D_clear_6 (fun σ_3 e9 H locs hw => ?_)
  replace h := nm_u h e9
  clear e9
  refine lv_aload_n (pc := 9) hx hb d_D_clear_9 rfl (lv_at hl 0 rfl) ?_
  refine lv_iconst (pc := 10) (v := 0) hx hb d_D_clear_10 (by decide) ?_
  refine pC_6_ticks (pc := 11) fx hw kw_66 d_D_clear_11 (fun σ_4 e9 H locs hw => ?_)
  replace h := nm_u h e9
  clear e9
  exact HR d_D_clear_14 h hw
end
theorem c_D_clear_6 {l : Launch} {D : va_G} {cA : Nat → ClassId} {a : Nat → Nat} {ad : Nat → Nat → Nat} {σ : SS} {post : SS → Prop} (h : f_D_clear_6 post σ) : mV l y_D_clear b_D_clear 1 none 1 20 D vcl (tyl cA) (wC cA a) (XC ad) σ [.ref (a 6)] post := met_V (by decide) (Nat.le_of_ble_eq_true rfl) (fun p e s m args below meth c A Q fx HR H ls hw hl => e_D_clear_6  fx HR h hw hl)
abbrev r_P_clear : Room := { frames := 2, cells := 0, slots := 0, locals := 40 }
def f_P_clear (post : SS → Prop) (σ : SS) : Prop := f_D_clear_6 (fun σ_1 => nm (sI σ_1 19 0) fun σ_3 => post σ_3) σ
section
variable {p : Program} {l : Launch} {e : Env} {s : State} {m : MethodId} {args : Array Value} {below : List Frame} {meth : Method} {c : Code} {Q : State → Prop} {D : va_G} {cA : Nat → ClassId} {a : Nat → Nat} {ad : Nat → Nat → Nat} {A : Nat → Prop}
set_option maxHeartbeats 4000000 in
set_option maxRecDepth 100000 in
theorem e_P_clear (fx : CallFix p m c b_P_clear 1 s args GW RNP) {post : SS → Prop} (HR : RetV p l e r_P_clear s m args below meth c Q D vcl (tyl cA) (wC cA a) (XC ad) A b_P_clear post) {σ : SS} {H : Heap} {locs : List Loc} {ls : Array Slot} (h : f_P_clear post σ) (hw : CX D vcl (tyl cA) (wC cA a σ) (XC ad) A s H locs) (hl : lv_has ls 1 [(0, .ref (a 6))]) : W p l e r_P_clear s m args below meth c H locs 0 0 Q (F0 m 0 ls []) := by
  have hx := fx.1
  have hb := fx.2.1
  unfold f_P_clear at h
  refine lv_aload_n (pc := 0) hx hb d_P_clear_0 rfl (lv_at hl 0 rfl) ?_
  refine rsV (pc := 1) hw (rnP (pc := 1) (hw.1.1 8 _ rfl).2 xtC fx hw (c_D_clear_6 h _) cw_P_22 (rcC_6 hw) rfl ⟨Nat.le_of_ble_eq_true rfl, Nat.le_of_ble_eq_true rfl⟩ hl.1 (Nat.le_of_ble_eq_true rfl) d_P_clear_1 ⟨Nat.zero_le _, Nat.zero_le _⟩) (fun σ_1 H locs hw h => ?_)
  refine lv_aload_n (pc := 4) hx hb d_P_clear_4 rfl (lv_at hl 0 rfl) ?_
  refine lv_iconst (pc := 5) (v := 0) hx hb d_P_clear_5 (by decide) ?_
  refine pC_6_count (pc := 6) fx hw kw_95 d_P_clear_6 (fun σ_3 e9 H locs hw => ?_)
  replace h := nm_u h e9
  clear e9
  exact HR d_P_clear_9 h hw
end
theorem c_P_clear {l : Launch} {D : va_G} {cA : Nat → ClassId} {a : Nat → Nat} {ad : Nat → Nat → Nat} {σ : SS} {post : SS → Prop} (h : f_P_clear post σ) : mV l y_P_clear b_P_clear 1 none 2 40 D vcl (tyl cA) (wC cA a) (XC ad) σ [.ref (a 6)] post := met_V (by decide) (Nat.le_of_ble_eq_true rfl) (fun p e s m args below meth c A Q fx HR H ls hw hl => e_P_clear  fx HR h hw hl)
abbrev r_D_stop_8 : Room := { frames := 0, cells := 0, slots := 0, locals := 0 }
def f_D_stop_8 (post : SS → Prop) (σ : SS) : Prop := nm (sI σ 21 0) fun σ_1 => nm (sI σ_1 22 0) fun σ_2 => post σ_2
section
variable {p : Program} {l : Launch} {e : Env} {s : State} {m : MethodId} {args : Array Value} {below : List Frame} {meth : Method} {c : Code} {Q : State → Prop} {D : va_G} {cA : Nat → ClassId} {a : Nat → Nat} {ad : Nat → Nat → Nat} {A : Nat → Prop}
set_option maxHeartbeats 4000000 in
set_option maxRecDepth 100000 in
theorem e_D_stop_8 (fx : CallFix p m c b_D_stop 1 s args GW "NovaDesk$Device") {post : SS → Prop} (HR : RetV p l e r_D_stop_8 s m args below meth c Q D vcl (tyl cA) (wC cA a) (XC ad) A b_D_stop post) {σ : SS} {H : Heap} {locs : List Loc} {ls : Array Slot} (h : f_D_stop_8 post σ) (hw : CX D vcl (tyl cA) (wC cA a σ) (XC ad) A s H locs) (hl : lv_has ls 1 [(0, .ref (a 8))]) : W p l e r_D_stop_8 s m args below meth c H locs 0 0 Q (F0 m 0 ls []) := by
  have hx := fx.1
  have hb := fx.2.1
  unfold f_D_stop_8 at h
  refine lv_aload_n (pc := 0) hx hb d_D_stop_0 rfl (lv_at hl 0 rfl) ?_
  refine lv_iconst (pc := 1) (v := 0) hx hb d_D_stop_1 (by decide) ?_
  refine pC_8_busy (pc := 2) fx hw kw_62 bz_0 d_D_stop_2 (fun σ_1 e9 H locs hw => ?_)
  replace h := nm_u h e9
  clear e9
  refine lv_aload_n (pc := 5) hx hb d_D_stop_5 rfl (lv_at hl 0 rfl) ?_
  refine lv_iconst (pc := 6) (v := 0) hx hb d_D_stop_6 (by decide) ?_
  refine pC_8_done (pc := 7) fx hw kw_64 bz_0 d_D_stop_7 (fun σ_2 e9 H locs hw => ?_)
  replace h := nm_u h e9
  clear e9
  exact HR d_D_stop_10 h hw
end
theorem c_D_stop_8 {l : Launch} {D : va_G} {cA : Nat → ClassId} {a : Nat → Nat} {ad : Nat → Nat → Nat} {σ : SS} {post : SS → Prop} (h : f_D_stop_8 post σ) : mV l y_D_stop b_D_stop 1 none 0 0 D vcl (tyl cA) (wC cA a) (XC ad) σ [.ref (a 8)] post := met_V (by decide) (Nat.le_of_ble_eq_true rfl) (fun p e s m args below meth c A Q fx HR H ls hw hl => e_D_stop_8  fx HR h hw hl)
abbrev r_D_clear_8 : Room := { frames := 1, cells := 0, slots := 0, locals := 20 }
def f_D_clear_8 (post : SS → Prop) (σ : SS) : Prop := f_D_stop_8 (fun σ_1 => nm (sI σ_1 20 0) fun σ_3 => nm (sI σ_3 23 0) fun σ_4 => post σ_4) σ
section
variable {p : Program} {l : Launch} {e : Env} {s : State} {m : MethodId} {args : Array Value} {below : List Frame} {meth : Method} {c : Code} {Q : State → Prop} {D : va_G} {cA : Nat → ClassId} {a : Nat → Nat} {ad : Nat → Nat → Nat} {A : Nat → Prop}
set_option maxHeartbeats 4000000 in
set_option maxRecDepth 100000 in
theorem e_D_clear_8 (fx : CallFix p m c b_D_clear 1 s args GW "NovaDesk$Device") {post : SS → Prop} (HR : RetV p l e r_D_clear_8 s m args below meth c Q D vcl (tyl cA) (wC cA a) (XC ad) A b_D_clear post) {σ : SS} {H : Heap} {locs : List Loc} {ls : Array Slot} (h : f_D_clear_8 post σ) (hw : CX D vcl (tyl cA) (wC cA a σ) (XC ad) A s H locs) (hl : lv_has ls 1 [(0, .ref (a 8))]) : W p l e r_D_clear_8 s m args below meth c H locs 0 0 Q (F0 m 0 ls []) := by
  have hx := fx.1
  have hb := fx.2.1
  unfold f_D_clear_8 at h
  refine lv_aload_n (pc := 0) hx hb d_D_clear_0 rfl (lv_at hl 0 rfl) ?_
  refine rsV (pc := 1) hw (rnU (pc := 1) xtC fx hw (c_D_stop_8 h _) cw_D_30_K (decl_c fx kw_328 kw_333) (rcC_8 hw) rfl ⟨Nat.le_of_ble_eq_true rfl, Nat.le_of_ble_eq_true rfl⟩ hl.1 (Nat.le_of_ble_eq_true rfl) d_D_clear_1 ⟨Nat.zero_le _, Nat.zero_le _⟩) (fun σ_1 H locs hw h => ?_)
  refine lv_aload_n (pc := 4) hx hb d_D_clear_4 rfl (lv_at hl 0 rfl) ?_
  refine lv_iconst (pc := 5) (v := 0) hx hb d_D_clear_5 (by decide) ?_
  refine pC_8_held (pc := 6) fx hw kw_61 d_D_clear_6 (fun σ_3 e9 H locs hw => ?_)
  replace h := nm_u h e9
  clear e9
  refine lv_aload_n (pc := 9) hx hb d_D_clear_9 rfl (lv_at hl 0 rfl) ?_
  refine lv_iconst (pc := 10) (v := 0) hx hb d_D_clear_10 (by decide) ?_
  refine pC_8_ticks (pc := 11) fx hw kw_66 d_D_clear_11 (fun σ_4 e9 H locs hw => ?_)
  replace h := nm_u h e9
  clear e9
  exact HR d_D_clear_14 h hw
end
theorem c_D_clear_8 {l : Launch} {D : va_G} {cA : Nat → ClassId} {a : Nat → Nat} {ad : Nat → Nat → Nat} {σ : SS} {post : SS → Prop} (h : f_D_clear_8 post σ) : mV l y_D_clear b_D_clear 1 none 1 20 D vcl (tyl cA) (wC cA a) (XC ad) σ [.ref (a 8)] post := met_V (by decide) (Nat.le_of_ble_eq_true rfl) (fun p e s m args below meth c A Q fx HR H ls hw hl => e_D_clear_8  fx HR h hw hl)
abbrev r_M_clear : Room := { frames := 3, cells := 0, slots := 0, locals := 60 }
def f_M_clear_26 (post : SS → Prop) : Nat → SS → Int32 → Prop
  | 0, _, _ => False
  | n + 1, σ, x1 => br (3 ≤ x1) (nm (sI σ 0 0) fun σ_1 => nm (sI σ_1 1 0) fun σ_2 => nm (sI σ_2 2 0) fun σ_3 => nm (sI σ_3 3 0) fun σ_4 => nm (sI σ_4 4 0) fun σ_5 => nm (sI σ_5 5 0) fun σ_6 => nm (sI σ_6 6 0) fun σ_7 => nm (sI σ_7 7 0) fun σ_8 => nm (sI σ_8 8 0) fun σ_9 => post σ_9) (vp_in x1 3 ∧ br (x1 = 0) (f_E_clear (fun σ_11 => nm (x1 + 1) fun x1_13 => f_M_clear_26 post n σ_11 x1_13) σ) (br (x1 = 1) (f_P_clear (fun σ_15 => nm (x1 + 1) fun x1_17 => f_M_clear_26 post n σ_15 x1_17) σ) (f_D_clear_8 (fun σ_19 => nm (x1 + 1) fun x1_21 => f_M_clear_26 post n σ_19 x1_21) σ)))
def f_M_clear_2 (post : SS → Prop) : Nat → SS → Int32 → Prop
  | 0, _, _ => False
  | n + 1, σ, x1 => br (4 ≤ x1) (∃ n9, f_M_clear_26 post n9 σ 0) (vp_in x1 4 ∧ nm (sA σ 3 x1.toNatClampNeg 0) fun σ_22 => nm (x1 + 1) fun x1_23 => f_M_clear_2 post n σ_22 x1_23)
def f_M_clear (post : SS → Prop) (σ : SS) : Prop := ∃ n9, f_M_clear_2 post n9 σ 0
section
variable {p : Program} {l : Launch} {e : Env} {s : State} {m : MethodId} {args : Array Value} {below : List Frame} {meth : Method} {c : Code} {Q : State → Prop} {D : va_G} {cA : Nat → ClassId} {a : Nat → Nat} {ad : Nat → Nat → Nat} {A : Nat → Prop}
set_option maxHeartbeats 4000000 in
set_option maxRecDepth 100000 in
theorem c_M_clear_26 (fx : CallFix p m c b_M_clear 2 s args GW RNM) {post : SS → Prop} (HR : RetV p l e r_M_clear s m args below meth c Q D vcl (tyl cA) (wC cA a) (XC ad) A b_M_clear post) : ∀ (n : Nat) {σ : SS} {x1 : Int32} {H : Heap} {locs : List Loc} {ls : Array Slot}, f_M_clear_26 post n σ x1 → CX D vcl (tyl cA) (wC cA a σ) (XC ad) A s H locs → lv_has ls 2 [(0, .ref (a 1)), (1, .int x1)] → W p l e r_M_clear s m args below meth c H locs 0 0 Q (F0 m 26 ls []) := by
  have hx := fx.1
  have hb := fx.2.1
  intro n
  induction n with
  | zero => intro σ x1 H locs ls h; exact h.elim
  | succ n ih =>
    intro σ x1 H locs ls h hw hl
    have K26 := @ih
    unfold f_M_clear_26 at h
    refine lv_iload_n (pc := 26) hx hb d_M_clear_26 rfl (lv_at hl 1 rfl) ?_
    refine lv_aload_n (pc := 27) hx hb d_M_clear_27 rfl (lv_at hl 0 rfl) ?_
    refine gC_1_devices (pc := 28) fx hw kw_128 d_M_clear_28 ?_
    refine anC_9 (pc := 31) fx hw d_M_clear_31 ?_
    refine lv_icmp_ge (pc := 32) (tgt := 50) hx hb d_M_clear_32 (by decide) (fun c9 => ?_) (fun c9 => ?_)
    · replace h := h.1 c9
      refine lv_aload_n (pc := 50) hx hb d_M_clear_50 rfl (lv_at hl 0 rfl) ?_
      refine lv_iconst (pc := 51) (v := 0) hx hb d_M_clear_51 (by decide) ?_
      refine pC_1_carry (pc := 52) fx hw kw_129 d_M_clear_52 (fun σ_1 e9 H locs hw => ?_)
      replace h := nm_u h e9
      clear e9
      refine lv_aload_n (pc := 55) hx hb d_M_clear_55 rfl (lv_at hl 0 rfl) ?_
      refine lv_iconst (pc := 56) (v := 0) hx hb d_M_clear_56 (by decide) ?_
      refine pC_1_pc (pc := 57) fx hw kw_130 d_M_clear_57 (fun σ_2 e9 H locs hw => ?_)
      replace h := nm_u h e9
      clear e9
      refine lv_aload_n (pc := 60) hx hb d_M_clear_60 rfl (lv_at hl 0 rfl) ?_
      refine lv_iconst (pc := 61) (v := 0) hx hb d_M_clear_61 (by decide) ?_
      refine pC_1_switches (pc := 62) fx hw kw_131 d_M_clear_62 (fun σ_3 e9 H locs hw => ?_)
      replace h := nm_u h e9
      clear e9
      refine lv_aload_n (pc := 65) hx hb d_M_clear_65 rfl (lv_at hl 0 rfl) ?_
      refine lv_iconst (pc := 66) (v := 0) hx hb d_M_clear_66 (by decide) ?_
      refine pC_1_mask (pc := 67) fx hw kw_132 d_M_clear_67 (fun σ_4 e9 H locs hw => ?_)
      replace h := nm_u h e9
      clear e9
      refine lv_aload_n (pc := 70) hx hb d_M_clear_70 rfl (lv_at hl 0 rfl) ?_
      refine lv_iconst (pc := 71) (v := 0) hx hb d_M_clear_71 (by decide) ?_
      refine pC_1_ion (pc := 72) fx hw kw_133 bz_0 d_M_clear_72 (fun σ_5 e9 H locs hw => ?_)
      replace h := nm_u h e9
      clear e9
      refine lv_aload_n (pc := 75) hx hb d_M_clear_75 rfl (lv_at hl 0 rfl) ?_
      refine lv_iconst (pc := 76) (v := 0) hx hb d_M_clear_76 (by decide) ?_
      refine pC_1_letInJustNow (pc := 77) fx hw kw_134 bz_0 d_M_clear_77 (fun σ_6 e9 H locs hw => ?_)
      replace h := nm_u h e9
      clear e9
      refine lv_aload_n (pc := 80) hx hb d_M_clear_80 rfl (lv_at hl 0 rfl) ?_
      refine lv_iconst (pc := 81) (v := 0) hx hb d_M_clear_81 (by decide) ?_
      refine pC_1_instructions (pc := 82) fx hw kw_135 d_M_clear_82 (fun σ_7 e9 H locs hw => ?_)
      replace h := nm_u h e9
      clear e9
      refine lv_aload_n (pc := 85) hx hb d_M_clear_85 rfl (lv_at hl 0 rfl) ?_
      refine lv_iconst (pc := 86) (v := 0) hx hb d_M_clear_86 (by decide) ?_
      refine pC_1_interrupts (pc := 87) fx hw kw_136 d_M_clear_87 (fun σ_8 e9 H locs hw => ?_)
      replace h := nm_u h e9
      clear e9
      refine lv_aload_n (pc := 90) hx hb d_M_clear_90 rfl (lv_at hl 0 rfl) ?_
      refine lv_iconst (pc := 91) (v := 0) hx hb d_M_clear_91 (by decide) ?_
      refine pC_1_ending (pc := 92) fx hw kw_137 d_M_clear_92 (fun σ_9 e9 H locs hw => ?_)
      replace h := nm_u h e9
      clear e9
      exact HR d_M_clear_95 h hw
    · replace h := h.2 c9
      refine lv_aload_n (pc := 35) hx hb d_M_clear_35 rfl (lv_at hl 0 rfl) ?_
      refine gC_1_devices (pc := 36) fx hw kw_128 d_M_clear_36 ?_
      refine lv_iload_n (pc := 39) hx hb d_M_clear_39 rfl (lv_at hl 1 rfl) ?_
      have v9 := h.1
      replace h := h.2
      by_cases cd_10 : x1 = 0
      · replace h := h.1 cd_10
        refine aaC_9_0 (pc := 40) fx hw cd_10 d_M_clear_40 ?_
        refine rsV (pc := 41) hw (rnU (pc := 41) xtC fx hw (c_E_clear h _) cw_M_78_E (decl_c fx kw_315 kw_326) (rcC_4 hw) rfl ⟨Nat.le_of_ble_eq_true rfl, Nat.le_of_ble_eq_true rfl⟩ hl.1 (Nat.le_of_ble_eq_true rfl) d_M_clear_41 ⟨Nat.zero_le _, Nat.zero_le _⟩) (fun σ_11 H locs hw h => ?_)
        obtain ⟨x1_13, e9⟩ : ∃ z : Int32, z = x1 + 1 := ⟨_, rfl⟩
        replace h := nm_u h e9
        refine lv_iinc (pc := 44) (v := x1_13) (lv' := [(1, .int x1_13), (0, .ref (a 1))]) hx hb d_M_clear_44 hl (k := 1) rfl (by rw [e9]; rfl) (by decide) rfl (fun ls hl => ?_)
        clear e9
        refine lv_goto (pc := 47) (tgt := 26) hx hb d_M_clear_47 (by decide) ?_
        exact K26 h hw (lv_sub hl [1, 0] rfl)
      replace h := h.2 cd_10
      by_cases cd_14 : x1 = 1
      · replace h := h.1 cd_14
        refine aaC_9_1 (pc := 40) fx hw cd_14 d_M_clear_40 ?_
        refine rsV (pc := 41) hw (rnU (pc := 41) xtC fx hw (c_P_clear h _) cw_M_78_P (decl_c fx kw_315 kw_326) (rcC_6 hw) rfl ⟨Nat.le_of_ble_eq_true rfl, Nat.le_of_ble_eq_true rfl⟩ hl.1 (Nat.le_of_ble_eq_true rfl) d_M_clear_41 ⟨Nat.zero_le _, Nat.zero_le _⟩) (fun σ_15 H locs hw h => ?_)
        obtain ⟨x1_17, e9⟩ : ∃ z : Int32, z = x1 + 1 := ⟨_, rfl⟩
        replace h := nm_u h e9
        refine lv_iinc (pc := 44) (v := x1_17) (lv' := [(1, .int x1_17), (0, .ref (a 1))]) hx hb d_M_clear_44 hl (k := 1) rfl (by rw [e9]; rfl) (by decide) rfl (fun ls hl => ?_)
        clear e9
        refine lv_goto (pc := 47) (tgt := 26) hx hb d_M_clear_47 (by decide) ?_
        exact K26 h hw (lv_sub hl [1, 0] rfl)
      replace h := h.2 cd_14
      have cd_18 := dv_2 v9 cd_10 cd_14
      refine aaC_9_2 (pc := 40) fx hw cd_18 d_M_clear_40 ?_
      refine rsV (pc := 41) hw (rnU (pc := 41) xtC fx hw (c_D_clear_8 h _) cw_M_78_K (decl_c fx kw_315 kw_326) (rcC_8 hw) rfl ⟨Nat.le_of_ble_eq_true rfl, Nat.le_of_ble_eq_true rfl⟩ hl.1 (Nat.le_of_ble_eq_true rfl) d_M_clear_41 ⟨Nat.zero_le _, Nat.zero_le _⟩) (fun σ_19 H locs hw h => ?_)
      obtain ⟨x1_21, e9⟩ : ∃ z : Int32, z = x1 + 1 := ⟨_, rfl⟩
      replace h := nm_u h e9
      refine lv_iinc (pc := 44) (v := x1_21) (lv' := [(1, .int x1_21), (0, .ref (a 1))]) hx hb d_M_clear_44 hl (k := 1) rfl (by rw [e9]; rfl) (by decide) rfl (fun ls hl => ?_)
      clear e9
      refine lv_goto (pc := 47) (tgt := 26) hx hb d_M_clear_47 (by decide) ?_
      exact K26 h hw (lv_sub hl [1, 0] rfl)
set_option maxHeartbeats 4000000 in
set_option maxRecDepth 100000 in
theorem c_M_clear_2 (fx : CallFix p m c b_M_clear 2 s args GW RNM) {post : SS → Prop} (HR : RetV p l e r_M_clear s m args below meth c Q D vcl (tyl cA) (wC cA a) (XC ad) A b_M_clear post) : ∀ (n : Nat) {σ : SS} {x1 : Int32} {H : Heap} {locs : List Loc} {ls : Array Slot}, f_M_clear_2 post n σ x1 → CX D vcl (tyl cA) (wC cA a σ) (XC ad) A s H locs → lv_has ls 2 [(0, .ref (a 1)), (1, .int x1)] → W p l e r_M_clear s m args below meth c H locs 0 0 Q (F0 m 2 ls []) := by
  have hx := fx.1
  have hb := fx.2.1
  intro n
  induction n with
  | zero => intro σ x1 H locs ls h; exact h.elim
  | succ n ih =>
    intro σ x1 H locs ls h hw hl
    have K2 := @ih
    unfold f_M_clear_2 at h
    refine lv_iload_n (pc := 2) hx hb d_M_clear_2 rfl (lv_at hl 1 rfl) ?_
    refine lv_aload_n (pc := 3) hx hb d_M_clear_3 rfl (lv_at hl 0 rfl) ?_
    refine gC_1_accumulators (pc := 4) fx hw kw_123 d_M_clear_4 ?_
    refine anC_3 (pc := 7) fx hw d_M_clear_7 ?_
    refine lv_icmp_ge (pc := 8) (tgt := 24) hx hb d_M_clear_8 (by decide) (fun c9 => ?_) (fun c9 => ?_)
    · replace h := h.1 c9
      refine lv_iconst (pc := 24) (v := 0) hx hb d_M_clear_24 (by decide) ?_
      refine lv_istore_n (pc := 25) (lv' := [(1, .int 0), (0, .ref (a 1))]) hx hb d_M_clear_25 rfl hl (by decide) rfl (fun ls hl => ?_)
      obtain ⟨n9, h⟩ := h
      exact c_M_clear_26  fx HR n9 h hw (lv_sub hl [1, 0] rfl)
    · replace h := h.2 c9
      refine lv_aload_n (pc := 11) hx hb d_M_clear_11 rfl (lv_at hl 0 rfl) ?_
      refine gC_1_accumulators (pc := 12) fx hw kw_123 d_M_clear_12 ?_
      refine lv_iload_n (pc := 15) hx hb d_M_clear_15 rfl (lv_at hl 1 rfl) ?_
      refine lv_iconst (pc := 16) (v := 0) hx hb d_M_clear_16 (by decide) ?_
      refine asC_3 (pc := 17) fx hw h.1 d_M_clear_17 (fun σ_22 e9 H locs hw => ?_)
      replace h := nm_u h.2 e9
      clear e9
      obtain ⟨x1_23, e9⟩ : ∃ z : Int32, z = x1 + 1 := ⟨_, rfl⟩
      replace h := nm_u h e9
      refine lv_iinc (pc := 18) (v := x1_23) (lv' := [(1, .int x1_23), (0, .ref (a 1))]) hx hb d_M_clear_18 hl (k := 1) rfl (by rw [e9]; rfl) (by decide) rfl (fun ls hl => ?_)
      clear e9
      refine lv_goto (pc := 21) (tgt := 2) hx hb d_M_clear_21 (by decide) ?_
      exact K2 h hw (lv_sub hl [1, 0] rfl)
set_option maxHeartbeats 4000000 in
set_option maxRecDepth 100000 in
theorem e_M_clear (fx : CallFix p m c b_M_clear 2 s args GW RNM) {post : SS → Prop} (HR : RetV p l e r_M_clear s m args below meth c Q D vcl (tyl cA) (wC cA a) (XC ad) A b_M_clear post) {σ : SS} {H : Heap} {locs : List Loc} {ls : Array Slot} (h : f_M_clear post σ) (hw : CX D vcl (tyl cA) (wC cA a σ) (XC ad) A s H locs) (hl : lv_has ls 2 [(0, .ref (a 1))]) : W p l e r_M_clear s m args below meth c H locs 0 0 Q (F0 m 0 ls []) := by
  have hx := fx.1
  have hb := fx.2.1
  unfold f_M_clear at h
  refine lv_iconst (pc := 0) (v := 0) hx hb d_M_clear_0 (by decide) ?_
  refine lv_istore_n (pc := 1) (lv' := [(1, .int 0), (0, .ref (a 1))]) hx hb d_M_clear_1 rfl hl (by decide) rfl (fun ls hl => ?_)
  obtain ⟨n9, h⟩ := h
  exact c_M_clear_2  fx HR n9 h hw (lv_sub hl [1, 0] rfl)
end
theorem c_M_clear {l : Launch} {D : va_G} {cA : Nat → ClassId} {a : Nat → Nat} {ad : Nat → Nat → Nat} {σ : SS} {post : SS → Prop} (h : f_M_clear post σ) : mV l y_M_clear b_M_clear 2 none 3 60 D vcl (tyl cA) (wC cA a) (XC ad) σ [.ref (a 1)] post := met_V (by decide) (Nat.le_of_ble_eq_true rfl) (fun p e s m args below meth c A Q fx HR H ls hw hl => e_M_clear  fx HR h hw hl)
abbrev r_E_work : Room := { frames := 0, cells := 0, slots := 0, locals := 0 }
def f_E_work (post : Int32 → SS → Prop) (σ : SS) : Prop := br ((σ.1 14) = 0) (post 0 σ) (vp_in (σ.1 13) 500 ∧ nm (sI σ 9 (σ.2.1 5 (σ.1 13).toNatClampNeg)) fun σ_1 => nm (sI σ_1 13 (((σ_1.1 13) + 1) - ((σ_1.1 13) + 1) / 500 * 500)) fun σ_2 => nm (sI σ_2 14 ((σ_2.1 14) - 1)) fun σ_3 => post 1 σ_3)
section
variable {p : Program} {l : Launch} {e : Env} {s : State} {m : MethodId} {args : Array Value} {below : List Frame} {meth : Method} {c : Code} {Q : State → Prop} {D : va_G} {cA : Nat → ClassId} {a : Nat → Nat} {ad : Nat → Nat → Nat} {A : Nat → Prop}
set_option maxHeartbeats 4000000 in
set_option maxRecDepth 100000 in
theorem e_E_work (fx : CallFix p m c b_E_work 1 s args GW RNE) {post : Int32 → SS → Prop} (HR : RetI p l e r_E_work s m args below meth c Q D vcl (tyl cA) (wC cA a) (XC ad) A b_E_work .boolean (fun r σ => bz r ∧ post r σ)) {σ : SS} {H : Heap} {locs : List Loc} {ls : Array Slot} (h : f_E_work post σ) (hw : CX D vcl (tyl cA) (wC cA a σ) (XC ad) A s H locs) (hl : lv_has ls 1 [(0, .ref (a 4))]) : W p l e r_E_work s m args below meth c H locs 0 0 Q (F0 m 0 ls []) := by
  have hx := fx.1
  have hb := fx.2.1
  unfold f_E_work at h
  refine lv_aload_n (pc := 0) hx hb d_E_work_0 rfl (lv_at hl 0 rfl) ?_
  refine gC_4_waiting (pc := 1) fx hw kw_52 d_E_work_1 ?_
  refine lv_if_ne (pc := 4) (tgt := 9) hx hb d_E_work_4 (by decide) (fun c9 => ?_) (fun c9 => ?_)
  · replace h := h.2 c9
    refine lv_aload_n (pc := 9) hx hb d_E_work_9 rfl (lv_at hl 0 rfl) ?_
    refine lv_aload_n (pc := 10) hx hb d_E_work_10 rfl (lv_at hl 0 rfl) ?_
    refine gC_4_tape (pc := 11) fx hw kw_50 d_E_work_11 ?_
    refine lv_aload_n (pc := 14) hx hb d_E_work_14 rfl (lv_at hl 0 rfl) ?_
    refine gC_4_head (pc := 15) fx hw kw_51 d_E_work_15 ?_
    refine alC_5 (pc := 18) fx hw h.1 d_E_work_18 ?_
    replace h := h.2
    refine pC_4_held_r (pc := 19) fx hw kw_58 d_E_work_19 (fun σ_1 e9 H locs hw => ?_)
    replace h := nm_u h e9
    clear e9
    refine lv_aload_n (pc := 22) hx hb d_E_work_22 rfl (lv_at hl 0 rfl) ?_
    refine lv_aload_n (pc := 23) hx hb d_E_work_23 rfl (lv_at hl 0 rfl) ?_
    refine gC_4_head (pc := 24) fx hw kw_51 d_E_work_24 ?_
    refine lv_iconst (pc := 27) (v := 1) hx hb d_E_work_27 (by decide) ?_
    refine lv_iadd (pc := 28) hx hb d_E_work_28 ?_
    refine lv_sipush (pc := 29) (v := 500) hx hb d_E_work_29 (by decide) ?_
    refine lv_irem (pc := 32) hx hb d_E_work_32 (by decide) ?_
    refine pC_4_head (pc := 33) fx hw kw_51 d_E_work_33 (fun σ_2 e9 H locs hw => ?_)
    replace h := nm_u h e9
    clear e9
    refine lv_aload_n (pc := 36) hx hb d_E_work_36 rfl (lv_at hl 0 rfl) ?_
    refine lv_dup (pc := 37) hx hb d_E_work_37 rfl ?_
    refine gC_4_waiting (pc := 38) fx hw kw_52 d_E_work_38 ?_
    refine lv_iconst (pc := 41) (v := 1) hx hb d_E_work_41 (by decide) ?_
    refine lv_isub (pc := 42) hx hb d_E_work_42 ?_
    refine pC_4_waiting (pc := 43) fx hw kw_52 d_E_work_43 (fun σ_3 e9 H locs hw => ?_)
    replace h := nm_u h e9
    clear e9
    refine lv_iconst (pc := 46) (v := 1) hx hb d_E_work_46 (by decide) ?_
    exact HR (bz_n bz_1) d_E_work_47 ⟨bz_1, h⟩ hw
  · replace h := h.1 c9
    refine lv_iconst (pc := 7) (v := 0) hx hb d_E_work_7 (by decide) ?_
    exact HR (bz_n bz_0) d_E_work_8 ⟨bz_0, h⟩ hw
end
theorem c_E_work {l : Launch} {D : va_G} {cA : Nat → ClassId} {a : Nat → Nat} {ad : Nat → Nat → Nat} {σ : SS} {post : Int32 → SS → Prop} (h : f_E_work post σ) : mI l y_E_work b_E_work 1 (some .boolean) 0 0 D vcl (tyl cA) (wC cA a) (XC ad) σ [.ref (a 4)] (fun r σ => bz r ∧ post r σ) := met_I (by decide) (Nat.le_of_ble_eq_true rfl) (fun p e s m args below meth c A Q fx HR H ls hw hl => e_E_work  fx HR h hw hl)
abbrev r_D_tick_4 : Room := { frames := 1, cells := 0, slots := 0, locals := 20 }
def f_D_tick_4 (post : SS → Prop) (σ : SS) : Prop := nm (sI σ 12 ((σ.1 12) + 1)) fun σ_1 => br ((σ_1.1 12) < 4) (post σ_1) (f_E_work (fun r_3 σ_2 => br (r_3 = 0) (post σ_2) (nm (sI σ_2 10 0) fun σ_4 => nm (sI σ_4 11 1) fun σ_5 => post σ_5)) σ_1)
section
variable {p : Program} {l : Launch} {e : Env} {s : State} {m : MethodId} {args : Array Value} {below : List Frame} {meth : Method} {c : Code} {Q : State → Prop} {D : va_G} {cA : Nat → ClassId} {a : Nat → Nat} {ad : Nat → Nat → Nat} {A : Nat → Prop}
set_option maxHeartbeats 4000000 in
set_option maxRecDepth 100000 in
theorem e_D_tick_4 (fx : CallFix p m c b_D_tick 1 s args GW "NovaDesk$Device") {post : SS → Prop} (HR : RetV p l e r_D_tick_4 s m args below meth c Q D vcl (tyl cA) (wC cA a) (XC ad) A b_D_tick post) {σ : SS} {H : Heap} {locs : List Loc} {ls : Array Slot} (h : f_D_tick_4 post σ) (hw : CX D vcl (tyl cA) (wC cA a σ) (XC ad) A s H locs) (hl : lv_has ls 1 [(0, .ref (a 4))]) : W p l e r_D_tick_4 s m args below meth c H locs 0 0 Q (F0 m 0 ls []) := by
  have hx := fx.1
  have hb := fx.2.1
  unfold f_D_tick_4 at h
  refine lv_aload_n (pc := 0) hx hb d_D_tick_0 rfl (lv_at hl 0 rfl) ?_
  refine lv_dup (pc := 1) hx hb d_D_tick_1 rfl ?_
  refine gC_4_ticks (pc := 2) fx hw kw_66 d_D_tick_2 ?_
  refine lv_iconst (pc := 5) (v := 1) hx hb d_D_tick_5 (by decide) ?_
  refine lv_iadd (pc := 6) hx hb d_D_tick_6 ?_
  refine pC_4_ticks (pc := 7) fx hw kw_66 d_D_tick_7 (fun σ_1 e9 H locs hw => ?_)
  replace h := nm_u h e9
  clear e9
  refine lv_aload_n (pc := 10) hx hb d_D_tick_10 rfl (lv_at hl 0 rfl) ?_
  refine gC_4_ticks (pc := 11) fx hw kw_66 d_D_tick_11 ?_
  refine lv_aload_n (pc := 14) hx hb d_D_tick_14 rfl (lv_at hl 0 rfl) ?_
  refine gC_4_ticksNeeded (pc := 15) fx hw kw_55 d_D_tick_15 ?_
  refine lv_icmp_lt (pc := 18) (tgt := 38) hx hb d_D_tick_18 (by decide) (fun c9 => ?_) (fun c9 => ?_)
  · replace h := h.1 c9
    exact HR d_D_tick_38 h hw
  · replace h := h.2 c9
    refine lv_aload_n (pc := 21) hx hb d_D_tick_21 rfl (lv_at hl 0 rfl) ?_
    refine rsI (pc := 22) hw (rnU (pc := 22) xtC fx hw (c_E_work h _) cw_D_26_E (va_Decl.abs (xc_DW hw.2.2.2.2.2)) (rcC_4 hw) rfl ⟨Nat.le_of_ble_eq_true rfl, Nat.le_of_ble_eq_true rfl⟩ hl.1 (Nat.le_of_ble_eq_true rfl) d_D_tick_22 ⟨Nat.zero_le _, Nat.zero_le _⟩) (fun r_3 σ_2 H locs hw h => ?_)
    have zr_3 := h.1
    replace h := h.2
    refine lv_if_eq (pc := 25) (tgt := 38) hx hb d_D_tick_25 (by decide) (fun c9 => ?_) (fun c9 => ?_)
    · replace h := h.1 c9
      exact HR d_D_tick_38 h hw
    · replace h := h.2 c9
      refine lv_aload_n (pc := 28) hx hb d_D_tick_28 rfl (lv_at hl 0 rfl) ?_
      refine lv_iconst (pc := 29) (v := 0) hx hb d_D_tick_29 (by decide) ?_
      refine pC_4_busy (pc := 30) fx hw kw_62 bz_0 d_D_tick_30 (fun σ_4 e9 H locs hw => ?_)
      replace h := nm_u h e9
      clear e9
      refine lv_aload_n (pc := 33) hx hb d_D_tick_33 rfl (lv_at hl 0 rfl) ?_
      refine lv_iconst (pc := 34) (v := 1) hx hb d_D_tick_34 (by decide) ?_
      refine pC_4_done (pc := 35) fx hw kw_64 bz_1 d_D_tick_35 (fun σ_5 e9 H locs hw => ?_)
      replace h := nm_u h e9
      clear e9
      exact HR d_D_tick_38 h hw
end
theorem c_D_tick_4 {l : Launch} {D : va_G} {cA : Nat → ClassId} {a : Nat → Nat} {ad : Nat → Nat → Nat} {σ : SS} {post : SS → Prop} (h : f_D_tick_4 post σ) : mV l y_D_tick b_D_tick 1 none 1 20 D vcl (tyl cA) (wC cA a) (XC ad) σ [.ref (a 4)] post := met_V (by decide) (Nat.le_of_ble_eq_true rfl) (fun p e s m args below meth c A Q fx HR H ls hw hl => e_D_tick_4  fx HR h hw hl)
abbrev r_P_work : Room := { frames := 0, cells := 0, slots := 0, locals := 0 }
def f_P_work_24 (post : Int32 → SS → Prop) (σ : SS) : Prop := nm (sI σ 19 ((σ.1 19) + 1)) fun σ_1 => post 1 σ_1
def f_P_work (post : Int32 → SS → Prop) (σ : SS) : Prop := br (1000 ≤ (σ.1 19)) (f_P_work_24 post σ) (vp_in (σ.1 19) 1000 ∧ nm (sA σ 7 (σ.1 19).toNatClampNeg (vp_nar .char (((σ.1 15).toUInt32 % 65536).toInt32))) fun σ_2 => f_P_work_24 post σ_2)
section
variable {p : Program} {l : Launch} {e : Env} {s : State} {m : MethodId} {args : Array Value} {below : List Frame} {meth : Method} {c : Code} {Q : State → Prop} {D : va_G} {cA : Nat → ClassId} {a : Nat → Nat} {ad : Nat → Nat → Nat} {A : Nat → Prop}
set_option maxHeartbeats 4000000 in
set_option maxRecDepth 100000 in
theorem c_P_work_24 (fx : CallFix p m c b_P_work 1 s args GW RNP) {post : Int32 → SS → Prop} (HR : RetI p l e r_P_work s m args below meth c Q D vcl (tyl cA) (wC cA a) (XC ad) A b_P_work .boolean (fun r σ => bz r ∧ post r σ)) {σ : SS} {H : Heap} {locs : List Loc} {ls : Array Slot} (h : f_P_work_24 post σ) (hw : CX D vcl (tyl cA) (wC cA a σ) (XC ad) A s H locs) (hl : lv_has ls 1 [(0, .ref (a 6))]) : W p l e r_P_work s m args below meth c H locs 0 0 Q (F0 m 24 ls []) := by
  have hx := fx.1
  have hb := fx.2.1
  unfold f_P_work_24 at h
  refine lv_aload_n (pc := 24) hx hb d_P_work_24 rfl (lv_at hl 0 rfl) ?_
  refine lv_dup (pc := 25) hx hb d_P_work_25 rfl ?_
  refine gC_6_count (pc := 26) fx hw kw_95 d_P_work_26 ?_
  refine lv_iconst (pc := 29) (v := 1) hx hb d_P_work_29 (by decide) ?_
  refine lv_iadd (pc := 30) hx hb d_P_work_30 ?_
  refine pC_6_count (pc := 31) fx hw kw_95 d_P_work_31 (fun σ_1 e9 H locs hw => ?_)
  replace h := nm_u h e9
  clear e9
  refine lv_iconst (pc := 34) (v := 1) hx hb d_P_work_34 (by decide) ?_
  exact HR (bz_n bz_1) d_P_work_35 ⟨bz_1, h⟩ hw
set_option maxHeartbeats 4000000 in
set_option maxRecDepth 100000 in
theorem e_P_work (fx : CallFix p m c b_P_work 1 s args GW RNP) {post : Int32 → SS → Prop} (HR : RetI p l e r_P_work s m args below meth c Q D vcl (tyl cA) (wC cA a) (XC ad) A b_P_work .boolean (fun r σ => bz r ∧ post r σ)) {σ : SS} {H : Heap} {locs : List Loc} {ls : Array Slot} (h : f_P_work post σ) (hw : CX D vcl (tyl cA) (wC cA a σ) (XC ad) A s H locs) (hl : lv_has ls 1 [(0, .ref (a 6))]) : W p l e r_P_work s m args below meth c H locs 0 0 Q (F0 m 0 ls []) := by
  have hx := fx.1
  have hb := fx.2.1
  unfold f_P_work at h
  refine lv_aload_n (pc := 0) hx hb d_P_work_0 rfl (lv_at hl 0 rfl) ?_
  refine gC_6_count (pc := 1) fx hw kw_95 d_P_work_1 ?_
  refine lv_sipush (pc := 4) (v := 1000) hx hb d_P_work_4 (by decide) ?_
  refine lv_icmp_ge (pc := 7) (tgt := 24) hx hb d_P_work_7 (by decide) (fun c9 => ?_) (fun c9 => ?_)
  · replace h := h.1 c9
    exact c_P_work_24  fx HR h hw (lv_sub hl [0] rfl)
  · replace h := h.2 c9
    refine lv_aload_n (pc := 10) hx hb d_P_work_10 rfl (lv_at hl 0 rfl) ?_
    refine gC_6_paper (pc := 11) fx hw kw_94 d_P_work_11 ?_
    refine lv_aload_n (pc := 14) hx hb d_P_work_14 rfl (lv_at hl 0 rfl) ?_
    refine gC_6_count (pc := 15) fx hw kw_95 d_P_work_15 ?_
    refine lv_aload_n (pc := 18) hx hb d_P_work_18 rfl (lv_at hl 0 rfl) ?_
    refine gC_6_held_r (pc := 19) fx hw kw_56 d_P_work_19 ?_
    refine lv_i2c (pc := 22) hx hb d_P_work_22 rfl ?_
    refine asC_7 (pc := 23) fx hw h.1 d_P_work_23 (fun σ_2 e9 H locs hw => ?_)
    replace h := nm_u h.2 e9
    clear e9
    exact c_P_work_24  fx HR h hw (lv_sub hl [0] rfl)
end
theorem c_P_work {l : Launch} {D : va_G} {cA : Nat → ClassId} {a : Nat → Nat} {ad : Nat → Nat → Nat} {σ : SS} {post : Int32 → SS → Prop} (h : f_P_work post σ) : mI l y_P_work b_P_work 1 (some .boolean) 0 0 D vcl (tyl cA) (wC cA a) (XC ad) σ [.ref (a 6)] (fun r σ => bz r ∧ post r σ) := met_I (by decide) (Nat.le_of_ble_eq_true rfl) (fun p e s m args below meth c A Q fx HR H ls hw hl => e_P_work  fx HR h hw hl)
abbrev r_D_tick_6 : Room := { frames := 1, cells := 0, slots := 0, locals := 20 }
def f_D_tick_6 (post : SS → Prop) (σ : SS) : Prop := nm (sI σ 18 ((σ.1 18) + 1)) fun σ_1 => br ((σ_1.1 18) < 4) (post σ_1) (f_P_work (fun r_3 σ_2 => br (r_3 = 0) (post σ_2) (nm (sI σ_2 16 0) fun σ_4 => nm (sI σ_4 17 1) fun σ_5 => post σ_5)) σ_1)
section
variable {p : Program} {l : Launch} {e : Env} {s : State} {m : MethodId} {args : Array Value} {below : List Frame} {meth : Method} {c : Code} {Q : State → Prop} {D : va_G} {cA : Nat → ClassId} {a : Nat → Nat} {ad : Nat → Nat → Nat} {A : Nat → Prop}
set_option maxHeartbeats 4000000 in
set_option maxRecDepth 100000 in
theorem e_D_tick_6 (fx : CallFix p m c b_D_tick 1 s args GW "NovaDesk$Device") {post : SS → Prop} (HR : RetV p l e r_D_tick_6 s m args below meth c Q D vcl (tyl cA) (wC cA a) (XC ad) A b_D_tick post) {σ : SS} {H : Heap} {locs : List Loc} {ls : Array Slot} (h : f_D_tick_6 post σ) (hw : CX D vcl (tyl cA) (wC cA a σ) (XC ad) A s H locs) (hl : lv_has ls 1 [(0, .ref (a 6))]) : W p l e r_D_tick_6 s m args below meth c H locs 0 0 Q (F0 m 0 ls []) := by
  have hx := fx.1
  have hb := fx.2.1
  unfold f_D_tick_6 at h
  refine lv_aload_n (pc := 0) hx hb d_D_tick_0 rfl (lv_at hl 0 rfl) ?_
  refine lv_dup (pc := 1) hx hb d_D_tick_1 rfl ?_
  refine gC_6_ticks (pc := 2) fx hw kw_66 d_D_tick_2 ?_
  refine lv_iconst (pc := 5) (v := 1) hx hb d_D_tick_5 (by decide) ?_
  refine lv_iadd (pc := 6) hx hb d_D_tick_6 ?_
  refine pC_6_ticks (pc := 7) fx hw kw_66 d_D_tick_7 (fun σ_1 e9 H locs hw => ?_)
  replace h := nm_u h e9
  clear e9
  refine lv_aload_n (pc := 10) hx hb d_D_tick_10 rfl (lv_at hl 0 rfl) ?_
  refine gC_6_ticks (pc := 11) fx hw kw_66 d_D_tick_11 ?_
  refine lv_aload_n (pc := 14) hx hb d_D_tick_14 rfl (lv_at hl 0 rfl) ?_
  refine gC_6_ticksNeeded (pc := 15) fx hw kw_55 d_D_tick_15 ?_
  refine lv_icmp_lt (pc := 18) (tgt := 38) hx hb d_D_tick_18 (by decide) (fun c9 => ?_) (fun c9 => ?_)
  · replace h := h.1 c9
    exact HR d_D_tick_38 h hw
  · replace h := h.2 c9
    refine lv_aload_n (pc := 21) hx hb d_D_tick_21 rfl (lv_at hl 0 rfl) ?_
    refine rsI (pc := 22) hw (rnU (pc := 22) xtC fx hw (c_P_work h _) cw_D_26_P (va_Decl.abs (xc_DW hw.2.2.2.2.2)) (rcC_6 hw) rfl ⟨Nat.le_of_ble_eq_true rfl, Nat.le_of_ble_eq_true rfl⟩ hl.1 (Nat.le_of_ble_eq_true rfl) d_D_tick_22 ⟨Nat.zero_le _, Nat.zero_le _⟩) (fun r_3 σ_2 H locs hw h => ?_)
    have zr_3 := h.1
    replace h := h.2
    refine lv_if_eq (pc := 25) (tgt := 38) hx hb d_D_tick_25 (by decide) (fun c9 => ?_) (fun c9 => ?_)
    · replace h := h.1 c9
      exact HR d_D_tick_38 h hw
    · replace h := h.2 c9
      refine lv_aload_n (pc := 28) hx hb d_D_tick_28 rfl (lv_at hl 0 rfl) ?_
      refine lv_iconst (pc := 29) (v := 0) hx hb d_D_tick_29 (by decide) ?_
      refine pC_6_busy (pc := 30) fx hw kw_62 bz_0 d_D_tick_30 (fun σ_4 e9 H locs hw => ?_)
      replace h := nm_u h e9
      clear e9
      refine lv_aload_n (pc := 33) hx hb d_D_tick_33 rfl (lv_at hl 0 rfl) ?_
      refine lv_iconst (pc := 34) (v := 1) hx hb d_D_tick_34 (by decide) ?_
      refine pC_6_done (pc := 35) fx hw kw_64 bz_1 d_D_tick_35 (fun σ_5 e9 H locs hw => ?_)
      replace h := nm_u h e9
      clear e9
      exact HR d_D_tick_38 h hw
end
theorem c_D_tick_6 {l : Launch} {D : va_G} {cA : Nat → ClassId} {a : Nat → Nat} {ad : Nat → Nat → Nat} {σ : SS} {post : SS → Prop} (h : f_D_tick_6 post σ) : mV l y_D_tick b_D_tick 1 none 1 20 D vcl (tyl cA) (wC cA a) (XC ad) σ [.ref (a 6)] post := met_V (by decide) (Nat.le_of_ble_eq_true rfl) (fun p e s m args below meth c A Q fx HR H ls hw hl => e_D_tick_6  fx HR h hw hl)
abbrev r_K_work : Room := { frames := 0, cells := 0, slots := 0, locals := 0 }
def f_K_work (post : Int32 → SS → Prop) (σ : SS) : Prop := post 1 σ
section
variable {p : Program} {l : Launch} {e : Env} {s : State} {m : MethodId} {args : Array Value} {below : List Frame} {meth : Method} {c : Code} {Q : State → Prop} {D : va_G} {cA : Nat → ClassId} {a : Nat → Nat} {ad : Nat → Nat → Nat} {A : Nat → Prop}
set_option maxHeartbeats 4000000 in
set_option maxRecDepth 100000 in
theorem e_K_work (fx : CallFix p m c b_K_work 1 s args GW RNK) {post : Int32 → SS → Prop} (HR : RetI p l e r_K_work s m args below meth c Q D vcl (tyl cA) (wC cA a) (XC ad) A b_K_work .boolean (fun r σ => bz r ∧ post r σ)) {σ : SS} {H : Heap} {locs : List Loc} {ls : Array Slot} (h : f_K_work post σ) (hw : CX D vcl (tyl cA) (wC cA a σ) (XC ad) A s H locs) (hl : lv_has ls 1 [(0, .ref (a 8))]) : W p l e r_K_work s m args below meth c H locs 0 0 Q (F0 m 0 ls []) := by
  have hx := fx.1
  have hb := fx.2.1
  unfold f_K_work at h
  refine lv_iconst (pc := 0) (v := 1) hx hb d_K_work_0 (by decide) ?_
  exact HR (bz_n bz_1) d_K_work_1 ⟨bz_1, h⟩ hw
end
theorem c_K_work {l : Launch} {D : va_G} {cA : Nat → ClassId} {a : Nat → Nat} {ad : Nat → Nat → Nat} {σ : SS} {post : Int32 → SS → Prop} (h : f_K_work post σ) : mI l y_K_work b_K_work 1 (some .boolean) 0 0 D vcl (tyl cA) (wC cA a) (XC ad) σ [.ref (a 8)] (fun r σ => bz r ∧ post r σ) := met_I (by decide) (Nat.le_of_ble_eq_true rfl) (fun p e s m args below meth c A Q fx HR H ls hw hl => e_K_work  fx HR h hw hl)
abbrev r_D_tick_8 : Room := { frames := 1, cells := 0, slots := 0, locals := 20 }
def f_D_tick_8 (post : SS → Prop) (σ : SS) : Prop := nm (sI σ 23 ((σ.1 23) + 1)) fun σ_1 => br ((σ_1.1 23) < 20) (post σ_1) (f_K_work (fun r_3 σ_2 => br (r_3 = 0) (post σ_2) (nm (sI σ_2 21 0) fun σ_4 => nm (sI σ_4 22 1) fun σ_5 => post σ_5)) σ_1)
section
variable {p : Program} {l : Launch} {e : Env} {s : State} {m : MethodId} {args : Array Value} {below : List Frame} {meth : Method} {c : Code} {Q : State → Prop} {D : va_G} {cA : Nat → ClassId} {a : Nat → Nat} {ad : Nat → Nat → Nat} {A : Nat → Prop}
set_option maxHeartbeats 4000000 in
set_option maxRecDepth 100000 in
theorem e_D_tick_8 (fx : CallFix p m c b_D_tick 1 s args GW "NovaDesk$Device") {post : SS → Prop} (HR : RetV p l e r_D_tick_8 s m args below meth c Q D vcl (tyl cA) (wC cA a) (XC ad) A b_D_tick post) {σ : SS} {H : Heap} {locs : List Loc} {ls : Array Slot} (h : f_D_tick_8 post σ) (hw : CX D vcl (tyl cA) (wC cA a σ) (XC ad) A s H locs) (hl : lv_has ls 1 [(0, .ref (a 8))]) : W p l e r_D_tick_8 s m args below meth c H locs 0 0 Q (F0 m 0 ls []) := by
  have hx := fx.1
  have hb := fx.2.1
  unfold f_D_tick_8 at h
  refine lv_aload_n (pc := 0) hx hb d_D_tick_0 rfl (lv_at hl 0 rfl) ?_
  refine lv_dup (pc := 1) hx hb d_D_tick_1 rfl ?_
  refine gC_8_ticks (pc := 2) fx hw kw_66 d_D_tick_2 ?_
  refine lv_iconst (pc := 5) (v := 1) hx hb d_D_tick_5 (by decide) ?_
  refine lv_iadd (pc := 6) hx hb d_D_tick_6 ?_
  refine pC_8_ticks (pc := 7) fx hw kw_66 d_D_tick_7 (fun σ_1 e9 H locs hw => ?_)
  replace h := nm_u h e9
  clear e9
  refine lv_aload_n (pc := 10) hx hb d_D_tick_10 rfl (lv_at hl 0 rfl) ?_
  refine gC_8_ticks (pc := 11) fx hw kw_66 d_D_tick_11 ?_
  refine lv_aload_n (pc := 14) hx hb d_D_tick_14 rfl (lv_at hl 0 rfl) ?_
  refine gC_8_ticksNeeded (pc := 15) fx hw kw_55 d_D_tick_15 ?_
  refine lv_icmp_lt (pc := 18) (tgt := 38) hx hb d_D_tick_18 (by decide) (fun c9 => ?_) (fun c9 => ?_)
  · replace h := h.1 c9
    exact HR d_D_tick_38 h hw
  · replace h := h.2 c9
    refine lv_aload_n (pc := 21) hx hb d_D_tick_21 rfl (lv_at hl 0 rfl) ?_
    refine rsI (pc := 22) hw (rnU (pc := 22) xtC fx hw (c_K_work h _) cw_D_26_K (va_Decl.abs (xc_DW hw.2.2.2.2.2)) (rcC_8 hw) rfl ⟨Nat.le_of_ble_eq_true rfl, Nat.le_of_ble_eq_true rfl⟩ hl.1 (Nat.le_of_ble_eq_true rfl) d_D_tick_22 ⟨Nat.zero_le _, Nat.zero_le _⟩) (fun r_3 σ_2 H locs hw h => ?_)
    have zr_3 := h.1
    replace h := h.2
    refine lv_if_eq (pc := 25) (tgt := 38) hx hb d_D_tick_25 (by decide) (fun c9 => ?_) (fun c9 => ?_)
    · replace h := h.1 c9
      exact HR d_D_tick_38 h hw
    · replace h := h.2 c9
      refine lv_aload_n (pc := 28) hx hb d_D_tick_28 rfl (lv_at hl 0 rfl) ?_
      refine lv_iconst (pc := 29) (v := 0) hx hb d_D_tick_29 (by decide) ?_
      refine pC_8_busy (pc := 30) fx hw kw_62 bz_0 d_D_tick_30 (fun σ_4 e9 H locs hw => ?_)
      replace h := nm_u h e9
      clear e9
      refine lv_aload_n (pc := 33) hx hb d_D_tick_33 rfl (lv_at hl 0 rfl) ?_
      refine lv_iconst (pc := 34) (v := 1) hx hb d_D_tick_34 (by decide) ?_
      refine pC_8_done (pc := 35) fx hw kw_64 bz_1 d_D_tick_35 (fun σ_5 e9 H locs hw => ?_)
      replace h := nm_u h e9
      clear e9
      exact HR d_D_tick_38 h hw
end
theorem c_D_tick_8 {l : Launch} {D : va_G} {cA : Nat → ClassId} {a : Nat → Nat} {ad : Nat → Nat → Nat} {σ : SS} {post : SS → Prop} (h : f_D_tick_8 post σ) : mV l y_D_tick b_D_tick 1 none 1 20 D vcl (tyl cA) (wC cA a) (XC ad) σ [.ref (a 8)] post := met_V (by decide) (Nat.le_of_ble_eq_true rfl) (fun p e s m args below meth c A Q fx HR H ls hw hl => e_D_tick_8  fx HR h hw hl)
abbrev r_M_stepAt : Room := { frames := 0, cells := 0, slots := 0, locals := 0 }
def f_M_stepAt (post : Int32 → SS → Prop) (σ : SS) (x0 : Int32) : Prop := br (x0 < 16) (post 0 σ) (br (x0 ≤ 31) (br (24 ≤ x0) (post (-1) σ) (post 1 σ)) (post 0 σ))
section
variable {p : Program} {l : Launch} {e : Env} {s : State} {m : MethodId} {args : Array Value} {below : List Frame} {meth : Method} {c : Code} {Q : State → Prop} {D : va_G} {cA : Nat → ClassId} {a : Nat → Nat} {ad : Nat → Nat → Nat} {A : Nat → Prop}
set_option maxHeartbeats 4000000 in
set_option maxRecDepth 100000 in
theorem e_M_stepAt (fx : CallFix p m c b_M_stepAt 1 s args GW RNM) {post : Int32 → SS → Prop} (HR : RetI p l e r_M_stepAt s m args below meth c Q D vcl (tyl cA) (wC cA a) (XC ad) A b_M_stepAt .int post) {σ : SS} {x0 : Int32} {H : Heap} {locs : List Loc} {ls : Array Slot} (h : f_M_stepAt post σ x0) (hw : CX D vcl (tyl cA) (wC cA a σ) (XC ad) A s H locs) (hl : lv_has ls 1 [(0, .int x0)]) : W p l e r_M_stepAt s m args below meth c H locs 0 0 Q (F0 m 0 ls []) := by
  have hx := fx.1
  have hb := fx.2.1
  unfold f_M_stepAt at h
  refine lv_iload_n (pc := 0) hx hb d_M_stepAt_0 rfl (lv_at hl 0 rfl) ?_
  refine lv_bipush (pc := 1) (v := 16) hx hb d_M_stepAt_1 (by decide) ?_
  refine lv_icmp_lt (pc := 3) (tgt := 12) hx hb d_M_stepAt_3 (by decide) (fun c9 => ?_) (fun c9 => ?_)
  · replace h := h.1 c9
    refine lv_iconst (pc := 12) (v := 0) hx hb d_M_stepAt_12 (by decide) ?_
    exact HR rfl d_M_stepAt_13 h hw
  · replace h := h.2 c9
    refine lv_iload_n (pc := 6) hx hb d_M_stepAt_6 rfl (lv_at hl 0 rfl) ?_
    refine lv_bipush (pc := 7) (v := 31) hx hb d_M_stepAt_7 (by decide) ?_
    refine lv_icmp_le (pc := 9) (tgt := 14) hx hb d_M_stepAt_9 (by decide) (fun c9 => ?_) (fun c9 => ?_)
    · replace h := h.1 c9
      refine lv_iload_n (pc := 14) hx hb d_M_stepAt_14 rfl (lv_at hl 0 rfl) ?_
      refine lv_bipush (pc := 15) (v := 24) hx hb d_M_stepAt_15 (by decide) ?_
      refine lv_icmp_ge (pc := 17) (tgt := 24) hx hb d_M_stepAt_17 (by decide) (fun c9 => ?_) (fun c9 => ?_)
      · replace h := h.1 c9
        refine lv_iconst (pc := 24) (v := (-1)) hx hb d_M_stepAt_24 (by decide) ?_
        exact HR rfl d_M_stepAt_25 h hw
      · replace h := h.2 c9
        refine lv_iconst (pc := 20) (v := 1) hx hb d_M_stepAt_20 (by decide) ?_
        refine lv_goto (pc := 21) (tgt := 25) hx hb d_M_stepAt_21 (by decide) ?_
        exact HR rfl d_M_stepAt_25 h hw
    · replace h := h.2 c9
      refine lv_iconst (pc := 12) (v := 0) hx hb d_M_stepAt_12 (by decide) ?_
      exact HR rfl d_M_stepAt_13 h hw
end
theorem c_M_stepAt {l : Launch} {D : va_G} {cA : Nat → ClassId} {a : Nat → Nat} {ad : Nat → Nat → Nat} {σ : SS} {post : Int32 → SS → Prop} {x0 : Int32} (h : f_M_stepAt post σ x0) : mI l y_M_stepAt b_M_stepAt 1 (some .int) 0 0 D vcl (tyl cA) (wC cA a) (XC ad) σ [.int x0] post := met_I (by decide) (Nat.le_of_ble_eq_true rfl) (fun p e s m args below meth c A Q fx HR H ls hw hl => e_M_stepAt  fx HR h hw hl)
abbrev r_M_countAt : Room := { frames := 1, cells := 0, slots := 0, locals := 22 }
def f_M_countAt (post : Int32 → SS → Prop) (σ : SS) (x1 : Int32) (x2 : Int32) : Prop := f_M_load (fun r_2 σ_1 => nm ((r_2 + x2) &&& 65535) fun x3_3 => f_M_store (fun σ_4 => post x3_3 σ_4) σ_1 x1 x3_3) σ x1
section
variable {p : Program} {l : Launch} {e : Env} {s : State} {m : MethodId} {args : Array Value} {below : List Frame} {meth : Method} {c : Code} {Q : State → Prop} {D : va_G} {cA : Nat → ClassId} {a : Nat → Nat} {ad : Nat → Nat → Nat} {A : Nat → Prop}
set_option maxHeartbeats 4000000 in
set_option maxRecDepth 100000 in
theorem e_M_countAt (fx : CallFix p m c b_M_countAt 4 s args GW RNM) {post : Int32 → SS → Prop} (HR : RetI p l e r_M_countAt s m args below meth c Q D vcl (tyl cA) (wC cA a) (XC ad) A b_M_countAt .int post) {σ : SS} {x1 : Int32} {x2 : Int32} {H : Heap} {locs : List Loc} {ls : Array Slot} (h : f_M_countAt post σ x1 x2) (hw : CX D vcl (tyl cA) (wC cA a σ) (XC ad) A s H locs) (hl : lv_has ls 4 [(0, .ref (a 1)), (1, .int x1), (2, .int x2)]) : W p l e r_M_countAt s m args below meth c H locs 0 0 Q (F0 m 0 ls []) := by
  have hx := fx.1
  have hb := fx.2.1
  unfold f_M_countAt at h
  refine lv_aload_n (pc := 0) hx hb d_M_countAt_0 rfl (lv_at hl 0 rfl) ?_
  refine lv_iload_n (pc := 1) hx hb d_M_countAt_1 rfl (lv_at hl 1 rfl) ?_
  refine rsI (pc := 2) hw (rnV (pc := 2) xtC fx hw (c_M_load h _) cw_M_98 (rcC_1 hw) rfl ⟨Nat.le_of_ble_eq_true rfl, Nat.le_of_ble_eq_true rfl⟩ hl.1 (Nat.le_of_ble_eq_true rfl) d_M_countAt_2 ⟨Nat.zero_le _, Nat.zero_le _⟩) (fun r_2 σ_1 H locs hw h => ?_)
  refine lv_iload_n (pc := 5) hx hb d_M_countAt_5 rfl (lv_at hl 2 rfl) ?_
  refine lv_iadd (pc := 6) hx hb d_M_countAt_6 ?_
  refine lv_ldc (pc := 7) (v := 65535) hx hb fx.2.2.2.1 (fx.2.2.2.2 _ kw_848) d_M_countAt_7 ?_
  refine lv_iand (pc := 9) hx hb d_M_countAt_9 ?_
  refine lv_topi (fun x3_3 e9 => ?_)
  replace h := nm_u h e9
  clear e9
  refine lv_istore_n (pc := 10) (lv' := [(3, .int x3_3), (0, .ref (a 1)), (1, .int x1), (2, .int x2)]) hx hb d_M_countAt_10 rfl hl (by decide) rfl (fun ls hl => ?_)
  refine lv_aload_n (pc := 11) hx hb d_M_countAt_11 rfl (lv_at hl 1 rfl) ?_
  refine lv_iload_n (pc := 12) hx hb d_M_countAt_12 rfl (lv_at hl 2 rfl) ?_
  refine lv_iload_n (pc := 13) hx hb d_M_countAt_13 rfl (lv_at hl 0 rfl) ?_
  refine rsV (pc := 14) hw (rnV (pc := 14) xtC fx hw (c_M_store h _) cw_M_116 (rcC_1 hw) rfl ⟨Nat.le_of_ble_eq_true rfl, Nat.le_of_ble_eq_true rfl⟩ hl.1 (Nat.le_of_ble_eq_true rfl) d_M_countAt_14 ⟨Nat.zero_le _, Nat.zero_le _⟩) (fun σ_4 H locs hw h => ?_)
  refine lv_iload_n (pc := 17) hx hb d_M_countAt_17 rfl (lv_at hl 0 rfl) ?_
  exact HR rfl d_M_countAt_18 h hw
end
theorem c_M_countAt {l : Launch} {D : va_G} {cA : Nat → ClassId} {a : Nat → Nat} {ad : Nat → Nat → Nat} {σ : SS} {post : Int32 → SS → Prop} {x1 : Int32} {x2 : Int32} (h : f_M_countAt post σ x1 x2) : mI l y_M_countAt b_M_countAt 4 (some .int) 1 22 D vcl (tyl cA) (wC cA a) (XC ad) σ [.ref (a 1), .int x1, .int x2] post := met_I (by decide) (Nat.le_of_ble_eq_true rfl) (fun p e s m args below meth c A Q fx HR H ls hw hl => e_M_countAt  fx HR h hw hl)
abbrev r_M_endOfRow : Room := { frames := 2, cells := 0, slots := 0, locals := 45 }
def f_M_endOfRow_4 (post : Int32 → SS → Prop) : Nat → SS → Int32 → Int32 → Prop
  | 0, _, _, _ => False
  | n + 1, σ, x2, x3 => br (14 ≤ x3) (post (-1) σ) (f_M_stepAt (fun r_2 σ_1 => f_M_countAt (fun r_4 σ_3 => nm (r_4 &&& 32767) fun x2_5 => br (32768 ≤ r_4) (nm (x3 + 1) fun x3_6 => f_M_endOfRow_4 post n σ_3 x2_5 x3_6) (post x2_5 σ_3)) σ_1 x2 r_2) σ x2)
def f_M_endOfRow (post : Int32 → SS → Prop) (σ : SS) (x1 : Int32) : Prop := ∃ n9, f_M_endOfRow_4 post n9 σ x1 0
section
variable {p : Program} {l : Launch} {e : Env} {s : State} {m : MethodId} {args : Array Value} {below : List Frame} {meth : Method} {c : Code} {Q : State → Prop} {D : va_G} {cA : Nat → ClassId} {a : Nat → Nat} {ad : Nat → Nat → Nat} {A : Nat → Prop}
set_option maxHeartbeats 4000000 in
set_option maxRecDepth 100000 in
theorem c_M_endOfRow_4 (fx : CallFix p m c b_M_endOfRow 5 s args GW RNM) {post : Int32 → SS → Prop} (HR : RetI p l e r_M_endOfRow s m args below meth c Q D vcl (tyl cA) (wC cA a) (XC ad) A b_M_endOfRow .int post) : ∀ (n : Nat) {σ : SS} {x2 : Int32} {x3 : Int32} {H : Heap} {locs : List Loc} {ls : Array Slot}, f_M_endOfRow_4 post n σ x2 x3 → CX D vcl (tyl cA) (wC cA a σ) (XC ad) A s H locs → lv_has ls 5 [(0, .ref (a 1)), (2, .int x2), (3, .int x3)] → W p l e r_M_endOfRow s m args below meth c H locs 0 0 Q (F0 m 4 ls []) := by
  have hx := fx.1
  have hb := fx.2.1
  intro n
  induction n with
  | zero => intro σ x2 x3 H locs ls h; exact h.elim
  | succ n ih =>
    intro σ x2 x3 H locs ls h hw hl
    have K4 := @ih
    unfold f_M_endOfRow_4 at h
    refine lv_iload_n (pc := 4) hx hb d_M_endOfRow_4 rfl (lv_at hl 2 rfl) ?_
    refine lv_bipush (pc := 5) (v := 14) hx hb d_M_endOfRow_5 (by decide) ?_
    refine lv_icmp_ge (pc := 7) (tgt := 43) hx hb d_M_endOfRow_7 (by decide) (fun c9 => ?_) (fun c9 => ?_)
    · replace h := h.1 c9
      refine lv_iconst (pc := 43) (v := (-1)) hx hb d_M_endOfRow_43 (by decide) ?_
      exact HR rfl d_M_endOfRow_44 h hw
    · replace h := h.2 c9
      refine lv_aload_n (pc := 10) hx hb d_M_endOfRow_10 rfl (lv_at hl 0 rfl) ?_
      refine lv_iload_n (pc := 11) hx hb d_M_endOfRow_11 rfl (lv_at hl 1 rfl) ?_
      refine lv_iload_n (pc := 12) hx hb d_M_endOfRow_12 rfl (lv_at hl 1 rfl) ?_
      refine rsI (pc := 13) hw (rnS (pc := 13) xtC fx hw (c_M_stepAt h _) cw_M_147 rfl ⟨Nat.le_of_ble_eq_true rfl, Nat.le_of_ble_eq_true rfl⟩ hl.1 (Nat.le_of_ble_eq_true rfl) d_M_endOfRow_13 ⟨Nat.zero_le _, Nat.zero_le _⟩) (fun r_2 σ_1 H locs hw h => ?_)
      refine rsI (pc := 16) hw (rnV (pc := 16) xtC fx hw (c_M_countAt h _) cw_M_139 (rcC_1 hw) rfl ⟨Nat.le_of_ble_eq_true rfl, Nat.le_of_ble_eq_true rfl⟩ hl.1 (Nat.le_of_ble_eq_true rfl) d_M_endOfRow_16 ⟨Nat.zero_le _, Nat.zero_le _⟩) (fun r_4 σ_3 H locs hw h => ?_)
      refine lv_istore (pc := 19) (lv' := [(4, .int r_4), (0, .ref (a 1)), (2, .int x2), (3, .int x3)]) hx hb d_M_endOfRow_19 hl (by decide) rfl (fun ls hl => ?_)
      refine lv_iload (pc := 21) hx hb d_M_endOfRow_21 (lv_at hl 0 rfl) ?_
      refine lv_sipush (pc := 23) (v := 32767) hx hb d_M_endOfRow_23 (by decide) ?_
      refine lv_iand (pc := 26) hx hb d_M_endOfRow_26 ?_
      refine lv_topi (fun x2_5 e9 => ?_)
      replace h := nm_u h e9
      clear e9
      refine lv_istore_n (pc := 27) (lv' := [(2, .int x2_5), (4, .int r_4), (0, .ref (a 1)), (3, .int x3)]) hx hb d_M_endOfRow_27 rfl hl (by decide) rfl (fun ls hl => ?_)
      refine lv_iload (pc := 28) hx hb d_M_endOfRow_28 (lv_at hl 1 rfl) ?_
      refine lv_ldc (pc := 30) (v := 32768) hx hb fx.2.2.2.1 (fx.2.2.2.2 _ kw_40) d_M_endOfRow_30 ?_
      refine lv_icmp_ge (pc := 32) (tgt := 37) hx hb d_M_endOfRow_32 (by decide) (fun c9 => ?_) (fun c9 => ?_)
      · replace h := h.1 c9
        obtain ⟨x3_6, e9⟩ : ∃ z : Int32, z = x3 + 1 := ⟨_, rfl⟩
        replace h := nm_u h e9
        refine lv_iinc (pc := 37) (v := x3_6) (lv' := [(3, .int x3_6), (2, .int x2_5), (4, .int r_4), (0, .ref (a 1))]) hx hb d_M_endOfRow_37 hl (k := 3) rfl (by rw [e9]; rfl) (by decide) rfl (fun ls hl => ?_)
        clear e9
        refine lv_goto (pc := 40) (tgt := 4) hx hb d_M_endOfRow_40 (by decide) ?_
        exact K4 h hw (lv_sub hl [3, 1, 0] rfl)
      · replace h := h.2 c9
        refine lv_iload_n (pc := 35) hx hb d_M_endOfRow_35 rfl (lv_at hl 0 rfl) ?_
        exact HR rfl d_M_endOfRow_36 h hw
set_option maxHeartbeats 4000000 in
set_option maxRecDepth 100000 in
theorem e_M_endOfRow (fx : CallFix p m c b_M_endOfRow 5 s args GW RNM) {post : Int32 → SS → Prop} (HR : RetI p l e r_M_endOfRow s m args below meth c Q D vcl (tyl cA) (wC cA a) (XC ad) A b_M_endOfRow .int post) {σ : SS} {x1 : Int32} {H : Heap} {locs : List Loc} {ls : Array Slot} (h : f_M_endOfRow post σ x1) (hw : CX D vcl (tyl cA) (wC cA a σ) (XC ad) A s H locs) (hl : lv_has ls 5 [(0, .ref (a 1)), (1, .int x1)]) : W p l e r_M_endOfRow s m args below meth c H locs 0 0 Q (F0 m 0 ls []) := by
  have hx := fx.1
  have hb := fx.2.1
  unfold f_M_endOfRow at h
  refine lv_iload_n (pc := 0) hx hb d_M_endOfRow_0 rfl (lv_at hl 1 rfl) ?_
  refine lv_istore_n (pc := 1) (lv' := [(2, .int x1), (0, .ref (a 1)), (1, .int x1)]) hx hb d_M_endOfRow_1 rfl hl (by decide) rfl (fun ls hl => ?_)
  refine lv_iconst (pc := 2) (v := 0) hx hb d_M_endOfRow_2 (by decide) ?_
  refine lv_istore_n (pc := 3) (lv' := [(3, .int 0), (2, .int x1), (0, .ref (a 1)), (1, .int x1)]) hx hb d_M_endOfRow_3 rfl hl (by decide) rfl (fun ls hl => ?_)
  obtain ⟨n9, h⟩ := h
  exact c_M_endOfRow_4  fx HR n9 h hw (lv_sub hl [2, 1, 0] rfl)
end
theorem c_M_endOfRow {l : Launch} {D : va_G} {cA : Nat → ClassId} {a : Nat → Nat} {ad : Nat → Nat → Nat} {σ : SS} {post : Int32 → SS → Prop} {x1 : Int32} (h : f_M_endOfRow post σ x1) : mI l y_M_endOfRow b_M_endOfRow 5 (some .int) 2 45 D vcl (tyl cA) (wC cA a) (XC ad) σ [.ref (a 1), .int x1] post := met_I (by decide) (Nat.le_of_ble_eq_true rfl) (fun p e s m args below meth c A Q fx HR H ls hw hl => e_M_endOfRow  fx HR h hw hl)
abbrev r_M_addressOf : Room := { frames := 3, cells := 0, slots := 0, locals := 69 }
def f_M_addressOf_96 (post : Int32 → SS → Prop) (σ : SS) (x1 : Int32) (x4 : Int32) : Prop := nm (x4 &&& 32767) fun x4_1 => br ((x1 &&& 1024) = 0) (post x4_1 σ) (f_M_endOfRow (fun r_3 σ_2 => post r_3 σ_2) σ x4_1)
def f_M_addressOf_22 (post : Int32 → SS → Prop) (σ : SS) (x1 : Int32) (x2 : Int32) (s0 : Int32) : Prop := nm ((x1 >>> ((8 : Int32) &&& 31)) &&& 3) fun xs_4 => br (xs_4 = (0 : Int32)) (f_M_addressOf_96 post σ x1 x2) (br (xs_4 = (1 : Int32)) (nm ((σ.1 1) + s0) fun x4_7 => f_M_addressOf_96 post σ x1 x4_7) (br (xs_4 = (2 : Int32)) (vp_in (2 : Int32) 4 ∧ nm ((σ.2.1 3 (2 : Int32).toNatClampNeg) + s0) fun x4_9 => f_M_addressOf_96 post σ x1 x4_9) (vp_in (3 : Int32) 4 ∧ nm ((σ.2.1 3 (3 : Int32).toNatClampNeg) + s0) fun x4_10 => f_M_addressOf_96 post σ x1 x4_10)))
def f_M_addressOf (post : Int32 → SS → Prop) (σ : SS) (x1 : Int32) : Prop := nm (x1 &&& 255) fun x2_11 => br (128 ≤ x2_11) (f_M_addressOf_22 post σ x1 x2_11 (x2_11 - 256)) (f_M_addressOf_22 post σ x1 x2_11 x2_11)
section
variable {p : Program} {l : Launch} {e : Env} {s : State} {m : MethodId} {args : Array Value} {below : List Frame} {meth : Method} {c : Code} {Q : State → Prop} {D : va_G} {cA : Nat → ClassId} {a : Nat → Nat} {ad : Nat → Nat → Nat} {A : Nat → Prop}
set_option maxHeartbeats 4000000 in
set_option maxRecDepth 100000 in
theorem c_M_addressOf_96 (fx : CallFix p m c b_M_addressOf 5 s args GW RNM) {post : Int32 → SS → Prop} (HR : RetI p l e r_M_addressOf s m args below meth c Q D vcl (tyl cA) (wC cA a) (XC ad) A b_M_addressOf .int post) {σ : SS} {x1 : Int32} {x4 : Int32} {H : Heap} {locs : List Loc} {ls : Array Slot} (h : f_M_addressOf_96 post σ x1 x4) (hw : CX D vcl (tyl cA) (wC cA a σ) (XC ad) A s H locs) (hl : lv_has ls 5 [(0, .ref (a 1)), (1, .int x1), (4, .int x4)]) : W p l e r_M_addressOf s m args below meth c H locs 0 0 Q (F0 m 96 ls []) := by
  have hx := fx.1
  have hb := fx.2.1
  unfold f_M_addressOf_96 at h
  refine lv_iload (pc := 96) hx hb d_M_addressOf_96 (lv_at hl 2 rfl) ?_
  refine lv_sipush (pc := 98) (v := 32767) hx hb d_M_addressOf_98 (by decide) ?_
  refine lv_iand (pc := 101) hx hb d_M_addressOf_101 ?_
  refine lv_topi (fun x4_1 e9 => ?_)
  replace h := nm_u h e9
  clear e9
  refine lv_istore (pc := 102) (lv' := [(4, .int x4_1), (0, .ref (a 1)), (1, .int x1)]) hx hb d_M_addressOf_102 hl (by decide) rfl (fun ls hl => ?_)
  refine lv_iload_n (pc := 104) hx hb d_M_addressOf_104 rfl (lv_at hl 2 rfl) ?_
  refine lv_sipush (pc := 105) (v := 1024) hx hb d_M_addressOf_105 (by decide) ?_
  refine lv_iand (pc := 108) hx hb d_M_addressOf_108 ?_
  refine lv_if_ne (pc := 109) (tgt := 117) hx hb d_M_addressOf_109 (by decide) (fun c9 => ?_) (fun c9 => ?_)
  · replace h := h.2 c9
    refine lv_aload_n (pc := 117) hx hb d_M_addressOf_117 rfl (lv_at hl 1 rfl) ?_
    refine lv_iload (pc := 118) hx hb d_M_addressOf_118 (lv_at hl 0 rfl) ?_
    refine rsI (pc := 120) hw (rnV (pc := 120) xtC fx hw (c_M_endOfRow h _) cw_M_120 (rcC_1 hw) rfl ⟨Nat.le_of_ble_eq_true rfl, Nat.le_of_ble_eq_true rfl⟩ hl.1 (Nat.le_of_ble_eq_true rfl) d_M_addressOf_120 ⟨Nat.zero_le _, Nat.zero_le _⟩) (fun r_3 σ_2 H locs hw h => ?_)
    exact HR rfl d_M_addressOf_123 h hw
  · replace h := h.1 c9
    refine lv_iload (pc := 112) hx hb d_M_addressOf_112 (lv_at hl 0 rfl) ?_
    refine lv_goto (pc := 114) (tgt := 123) hx hb d_M_addressOf_114 (by decide) ?_
    exact HR rfl d_M_addressOf_123 h hw
set_option maxHeartbeats 4000000 in
set_option maxRecDepth 100000 in
theorem c_M_addressOf_22 (fx : CallFix p m c b_M_addressOf 5 s args GW RNM) {post : Int32 → SS → Prop} (HR : RetI p l e r_M_addressOf s m args below meth c Q D vcl (tyl cA) (wC cA a) (XC ad) A b_M_addressOf .int post) {σ : SS} {x1 : Int32} {x2 : Int32} {s0 : Int32} {H : Heap} {locs : List Loc} {ls : Array Slot} (h : f_M_addressOf_22 post σ x1 x2 s0) (hw : CX D vcl (tyl cA) (wC cA a σ) (XC ad) A s H locs) (hl : lv_has ls 5 [(0, .ref (a 1)), (1, .int x1), (2, .int x2)]) : W p l e r_M_addressOf s m args below meth c H locs 0 0 Q (F0 m 22 ls [.int s0]) := by
  have hx := fx.1
  have hb := fx.2.1
  unfold f_M_addressOf_22 at h
  refine lv_istore_n (pc := 22) (lv' := [(3, .int s0), (0, .ref (a 1)), (1, .int x1), (2, .int x2)]) hx hb d_M_addressOf_22 rfl hl (by decide) rfl (fun ls hl => ?_)
  refine lv_iload_n (pc := 23) hx hb d_M_addressOf_23 rfl (lv_at hl 2 rfl) ?_
  refine lv_bipush (pc := 24) (v := 8) hx hb d_M_addressOf_24 (by decide) ?_
  refine lv_ishr (pc := 26) hx hb d_M_addressOf_26 ?_
  refine lv_iconst (pc := 27) (v := 3) hx hb d_M_addressOf_27 (by decide) ?_
  refine lv_iand (pc := 28) hx hb d_M_addressOf_28 ?_
  refine lv_topi (fun xs_4 e9 => ?_)
  replace h := nm_u h e9
  clear e9
  by_cases cq_5 : xs_4 = (0 : Int32)
  · replace h := h.1 cq_5
    refine lv_tableIn (pc := 29) (off := 27) (tgt := 56) hx hb d_M_addressOf_29 (by rw [cq_5]; decide) (by rw [cq_5]; decide) (by rw [cq_5]; rfl) (by decide) ?_
    refine lv_iload_n (pc := 56) hx hb d_M_addressOf_56 rfl (lv_at hl 3 rfl) ?_
    refine lv_istore (pc := 57) (lv' := [(4, .int x2), (3, .int s0), (0, .ref (a 1)), (1, .int x1), (2, .int x2)]) hx hb d_M_addressOf_57 hl (by decide) rfl (fun ls hl => ?_)
    refine lv_goto (pc := 59) (tgt := 96) hx hb d_M_addressOf_59 (by decide) ?_
    exact c_M_addressOf_96  fx HR h hw (lv_sub hl [2, 3, 0] rfl)
  replace h := h.2 cq_5
  by_cases cq_6 : xs_4 = (1 : Int32)
  · replace h := h.1 cq_6
    refine lv_tableIn (pc := 29) (off := 33) (tgt := 62) hx hb d_M_addressOf_29 (by rw [cq_6]; decide) (by rw [cq_6]; decide) (by rw [cq_6]; rfl) (by decide) ?_
    refine lv_aload_n (pc := 62) hx hb d_M_addressOf_62 rfl (lv_at hl 1 rfl) ?_
    refine gC_1_pc (pc := 63) fx hw kw_130 d_M_addressOf_63 ?_
    refine lv_iload_n (pc := 66) hx hb d_M_addressOf_66 rfl (lv_at hl 0 rfl) ?_
    refine lv_iadd (pc := 67) hx hb d_M_addressOf_67 ?_
    refine lv_topi (fun x4_7 e9 => ?_)
    replace h := nm_u h e9
    clear e9
    refine lv_istore (pc := 68) (lv' := [(4, .int x4_7), (3, .int s0), (0, .ref (a 1)), (1, .int x1), (2, .int x2)]) hx hb d_M_addressOf_68 hl (by decide) rfl (fun ls hl => ?_)
    refine lv_goto (pc := 70) (tgt := 96) hx hb d_M_addressOf_70 (by decide) ?_
    exact c_M_addressOf_96  fx HR h hw (lv_sub hl [2, 3, 0] rfl)
  replace h := h.2 cq_6
  by_cases cq_8 : xs_4 = (2 : Int32)
  · replace h := h.1 cq_8
    refine lv_tableIn (pc := 29) (off := 44) (tgt := 73) hx hb d_M_addressOf_29 (by rw [cq_8]; decide) (by rw [cq_8]; decide) (by rw [cq_8]; rfl) (by decide) ?_
    refine lv_aload_n (pc := 73) hx hb d_M_addressOf_73 rfl (lv_at hl 1 rfl) ?_
    refine gC_1_accumulators (pc := 74) fx hw kw_123 d_M_addressOf_74 ?_
    refine lv_iconst (pc := 77) (v := 2) hx hb d_M_addressOf_77 (by decide) ?_
    refine alC_3 (pc := 78) fx hw h.1 d_M_addressOf_78 ?_
    replace h := h.2
    refine lv_iload_n (pc := 79) hx hb d_M_addressOf_79 rfl (lv_at hl 0 rfl) ?_
    refine lv_iadd (pc := 80) hx hb d_M_addressOf_80 ?_
    refine lv_topi (fun x4_9 e9 => ?_)
    replace h := nm_u h e9
    clear e9
    refine lv_istore (pc := 81) (lv' := [(4, .int x4_9), (3, .int s0), (0, .ref (a 1)), (1, .int x1), (2, .int x2)]) hx hb d_M_addressOf_81 hl (by decide) rfl (fun ls hl => ?_)
    refine lv_goto (pc := 83) (tgt := 96) hx hb d_M_addressOf_83 (by decide) ?_
    exact c_M_addressOf_96  fx HR h hw (lv_sub hl [2, 3, 0] rfl)
  replace h := h.2 cq_8
  refine lv_tableOut (pc := 29) (tgt := 86) hx hb d_M_addressOf_29 (by have := lv_neT cq_5 (a := 0) (by decide); have := lv_neT cq_6 (a := 1) (by decide); have := lv_neT cq_8 (a := 2) (by decide); omega) (by decide) ?_
  refine lv_aload_n (pc := 86) hx hb d_M_addressOf_86 rfl (lv_at hl 1 rfl) ?_
  refine gC_1_accumulators (pc := 87) fx hw kw_123 d_M_addressOf_87 ?_
  refine lv_iconst (pc := 90) (v := 3) hx hb d_M_addressOf_90 (by decide) ?_
  refine alC_3 (pc := 91) fx hw h.1 d_M_addressOf_91 ?_
  replace h := h.2
  refine lv_iload_n (pc := 92) hx hb d_M_addressOf_92 rfl (lv_at hl 0 rfl) ?_
  refine lv_iadd (pc := 93) hx hb d_M_addressOf_93 ?_
  refine lv_topi (fun x4_10 e9 => ?_)
  replace h := nm_u h e9
  clear e9
  refine lv_istore (pc := 94) (lv' := [(4, .int x4_10), (3, .int s0), (0, .ref (a 1)), (1, .int x1), (2, .int x2)]) hx hb d_M_addressOf_94 hl (by decide) rfl (fun ls hl => ?_)
  exact c_M_addressOf_96  fx HR h hw (lv_sub hl [2, 3, 0] rfl)
set_option maxHeartbeats 4000000 in
set_option maxRecDepth 100000 in
theorem e_M_addressOf (fx : CallFix p m c b_M_addressOf 5 s args GW RNM) {post : Int32 → SS → Prop} (HR : RetI p l e r_M_addressOf s m args below meth c Q D vcl (tyl cA) (wC cA a) (XC ad) A b_M_addressOf .int post) {σ : SS} {x1 : Int32} {H : Heap} {locs : List Loc} {ls : Array Slot} (h : f_M_addressOf post σ x1) (hw : CX D vcl (tyl cA) (wC cA a σ) (XC ad) A s H locs) (hl : lv_has ls 5 [(0, .ref (a 1)), (1, .int x1)]) : W p l e r_M_addressOf s m args below meth c H locs 0 0 Q (F0 m 0 ls []) := by
  have hx := fx.1
  have hb := fx.2.1
  unfold f_M_addressOf at h
  refine lv_iload_n (pc := 0) hx hb d_M_addressOf_0 rfl (lv_at hl 1 rfl) ?_
  refine lv_sipush (pc := 1) (v := 255) hx hb d_M_addressOf_1 (by decide) ?_
  refine lv_iand (pc := 4) hx hb d_M_addressOf_4 ?_
  refine lv_topi (fun x2_11 e9 => ?_)
  replace h := nm_u h e9
  clear e9
  refine lv_istore_n (pc := 5) (lv' := [(2, .int x2_11), (0, .ref (a 1)), (1, .int x1)]) hx hb d_M_addressOf_5 rfl hl (by decide) rfl (fun ls hl => ?_)
  refine lv_iload_n (pc := 6) hx hb d_M_addressOf_6 rfl (lv_at hl 0 rfl) ?_
  refine lv_sipush (pc := 7) (v := 128) hx hb d_M_addressOf_7 (by decide) ?_
  refine lv_icmp_ge (pc := 10) (tgt := 17) hx hb d_M_addressOf_10 (by decide) (fun c9 => ?_) (fun c9 => ?_)
  · replace h := h.1 c9
    refine lv_iload_n (pc := 17) hx hb d_M_addressOf_17 rfl (lv_at hl 0 rfl) ?_
    refine lv_sipush (pc := 18) (v := 256) hx hb d_M_addressOf_18 (by decide) ?_
    refine lv_isub (pc := 21) hx hb d_M_addressOf_21 ?_
    exact c_M_addressOf_22  fx HR h hw (lv_sub hl [1, 2, 0] rfl)
  · replace h := h.2 c9
    refine lv_iload_n (pc := 13) hx hb d_M_addressOf_13 rfl (lv_at hl 0 rfl) ?_
    refine lv_goto (pc := 14) (tgt := 22) hx hb d_M_addressOf_14 (by decide) ?_
    exact c_M_addressOf_22  fx HR h hw (lv_sub hl [1, 2, 0] rfl)
end
theorem c_M_addressOf {l : Launch} {D : va_G} {cA : Nat → ClassId} {a : Nat → Nat} {ad : Nat → Nat → Nat} {σ : SS} {post : Int32 → SS → Prop} {x1 : Int32} (h : f_M_addressOf post σ x1) : mI l y_M_addressOf b_M_addressOf 5 (some .int) 3 69 D vcl (tyl cA) (wC cA a) (XC ad) σ [.ref (a 1), .int x1] post := met_I (by decide) (Nat.le_of_ble_eq_true rfl) (fun p e s m args below meth c A Q fx HR H ls hw hl => e_M_addressOf  fx HR h hw hl)
abbrev r_M_goOn : Room := { frames := 0, cells := 0, slots := 0, locals := 0 }
def f_M_goOn_14 (post : SS → Prop) (σ : SS) (s0 : Int32) (s1 : Int32) : Prop := nm (sI σ 1 ((s1 + s0) &&& 32767)) fun σ_1 => post σ_1
def f_M_goOn (post : SS → Prop) (σ : SS) (x1 : Int32) : Prop := br (x1 = 0) (f_M_goOn_14 post σ 1 (σ.1 1)) (f_M_goOn_14 post σ 2 (σ.1 1))
section
variable {p : Program} {l : Launch} {e : Env} {s : State} {m : MethodId} {args : Array Value} {below : List Frame} {meth : Method} {c : Code} {Q : State → Prop} {D : va_G} {cA : Nat → ClassId} {a : Nat → Nat} {ad : Nat → Nat → Nat} {A : Nat → Prop}
set_option maxHeartbeats 4000000 in
set_option maxRecDepth 100000 in
theorem c_M_goOn_14 (fx : CallFix p m c b_M_goOn 2 s args GW RNM) {post : SS → Prop} (HR : RetV p l e r_M_goOn s m args below meth c Q D vcl (tyl cA) (wC cA a) (XC ad) A b_M_goOn post) {σ : SS} {s0 : Int32} {s1 : Int32} {H : Heap} {locs : List Loc} {ls : Array Slot} (h : f_M_goOn_14 post σ s0 s1) (hw : CX D vcl (tyl cA) (wC cA a σ) (XC ad) A s H locs) (hl : lv_has ls 2 []) : W p l e r_M_goOn s m args below meth c H locs 0 0 Q (F0 m 14 ls [.int s0, .int s1, .ref (a 1)]) := by
  have hx := fx.1
  have hb := fx.2.1
  unfold f_M_goOn_14 at h
  refine lv_iadd (pc := 14) hx hb d_M_goOn_14 ?_
  refine lv_sipush (pc := 15) (v := 32767) hx hb d_M_goOn_15 (by decide) ?_
  refine lv_iand (pc := 18) hx hb d_M_goOn_18 ?_
  refine pC_1_pc (pc := 19) fx hw kw_130 d_M_goOn_19 (fun σ_1 e9 H locs hw => ?_)
  replace h := nm_u h e9
  clear e9
  exact HR d_M_goOn_22 h hw
set_option maxHeartbeats 4000000 in
set_option maxRecDepth 100000 in
theorem e_M_goOn (fx : CallFix p m c b_M_goOn 2 s args GW RNM) {post : SS → Prop} (HR : RetV p l e r_M_goOn s m args below meth c Q D vcl (tyl cA) (wC cA a) (XC ad) A b_M_goOn post) {σ : SS} {x1 : Int32} {H : Heap} {locs : List Loc} {ls : Array Slot} (h : f_M_goOn post σ x1) (hw : CX D vcl (tyl cA) (wC cA a σ) (XC ad) A s H locs) (hl : lv_has ls 2 [(0, .ref (a 1)), (1, .int x1)]) : W p l e r_M_goOn s m args below meth c H locs 0 0 Q (F0 m 0 ls []) := by
  have hx := fx.1
  have hb := fx.2.1
  unfold f_M_goOn at h
  refine lv_aload_n (pc := 0) hx hb d_M_goOn_0 rfl (lv_at hl 0 rfl) ?_
  refine lv_aload_n (pc := 1) hx hb d_M_goOn_1 rfl (lv_at hl 0 rfl) ?_
  refine gC_1_pc (pc := 2) fx hw kw_130 d_M_goOn_2 ?_
  refine lv_iload_n (pc := 5) hx hb d_M_goOn_5 rfl (lv_at hl 1 rfl) ?_
  refine lv_if_eq (pc := 6) (tgt := 13) hx hb d_M_goOn_6 (by decide) (fun c9 => ?_) (fun c9 => ?_)
  · replace h := h.1 c9
    refine lv_iconst (pc := 13) (v := 1) hx hb d_M_goOn_13 (by decide) ?_
    exact c_M_goOn_14  fx HR h hw (lv_sub hl [] rfl)
  · replace h := h.2 c9
    refine lv_iconst (pc := 9) (v := 2) hx hb d_M_goOn_9 (by decide) ?_
    refine lv_goto (pc := 10) (tgt := 14) hx hb d_M_goOn_10 (by decide) ?_
    exact c_M_goOn_14  fx HR h hw (lv_sub hl [] rfl)
end
theorem c_M_goOn {l : Launch} {D : va_G} {cA : Nat → ClassId} {a : Nat → Nat} {ad : Nat → Nat → Nat} {σ : SS} {post : SS → Prop} {x1 : Int32} (h : f_M_goOn post σ x1) : mV l y_M_goOn b_M_goOn 2 none 0 0 D vcl (tyl cA) (wC cA a) (XC ad) σ [.ref (a 1), .int x1] post := met_V (by decide) (Nat.le_of_ble_eq_true rfl) (fun p e s m args below meth c A Q fx HR H ls hw hl => e_M_goOn  fx HR h hw hl)
abbrev r_M_moveWord : Room := { frames := 1, cells := 0, slots := 0, locals := 22 }
def f_M_moveWord_35 (post : SS → Prop) (σ : SS) : Prop := f_M_goOn (fun σ_1 => post σ_1) σ 0
def f_M_moveWord (post : SS → Prop) (σ : SS) (x1 : Int32) (x2 : Int32) : Prop := nm (x1 &&& 3) fun x3_3 => br (8 ≤ x1) (vp_in x3_3 4 ∧ f_M_store (fun σ_4 => f_M_moveWord_35 post σ_4) σ x2 (σ.2.1 3 x3_3.toNatClampNeg)) (f_M_load (fun r_7 σ_6 => vp_in x3_3 4 ∧ nm (sA σ_6 3 x3_3.toNatClampNeg r_7) fun σ_8 => f_M_moveWord_35 post σ_8) σ x2)
section
variable {p : Program} {l : Launch} {e : Env} {s : State} {m : MethodId} {args : Array Value} {below : List Frame} {meth : Method} {c : Code} {Q : State → Prop} {D : va_G} {cA : Nat → ClassId} {a : Nat → Nat} {ad : Nat → Nat → Nat} {A : Nat → Prop}
set_option maxHeartbeats 4000000 in
set_option maxRecDepth 100000 in
theorem c_M_moveWord_35 (fx : CallFix p m c b_M_moveWord 4 s args GW RNM) {post : SS → Prop} (HR : RetV p l e r_M_moveWord s m args below meth c Q D vcl (tyl cA) (wC cA a) (XC ad) A b_M_moveWord post) {σ : SS} {H : Heap} {locs : List Loc} {ls : Array Slot} (h : f_M_moveWord_35 post σ) (hw : CX D vcl (tyl cA) (wC cA a σ) (XC ad) A s H locs) (hl : lv_has ls 4 [(0, .ref (a 1))]) : W p l e r_M_moveWord s m args below meth c H locs 0 0 Q (F0 m 35 ls []) := by
  have hx := fx.1
  have hb := fx.2.1
  unfold f_M_moveWord_35 at h
  refine lv_aload_n (pc := 35) hx hb d_M_moveWord_35 rfl (lv_at hl 0 rfl) ?_
  refine lv_iconst (pc := 36) (v := 0) hx hb d_M_moveWord_36 (by decide) ?_
  refine rsV (pc := 37) hw (rnV (pc := 37) xtC fx hw (c_M_goOn h _) cw_M_126 (rcC_1 hw) rfl ⟨Nat.le_of_ble_eq_true rfl, Nat.le_of_ble_eq_true rfl⟩ hl.1 (Nat.le_of_ble_eq_true rfl) d_M_moveWord_37 ⟨Nat.zero_le _, Nat.zero_le _⟩) (fun σ_1 H locs hw h => ?_)
  exact HR d_M_moveWord_40 h hw
set_option maxHeartbeats 4000000 in
set_option maxRecDepth 100000 in
theorem e_M_moveWord (fx : CallFix p m c b_M_moveWord 4 s args GW RNM) {post : SS → Prop} (HR : RetV p l e r_M_moveWord s m args below meth c Q D vcl (tyl cA) (wC cA a) (XC ad) A b_M_moveWord post) {σ : SS} {x1 : Int32} {x2 : Int32} {H : Heap} {locs : List Loc} {ls : Array Slot} (h : f_M_moveWord post σ x1 x2) (hw : CX D vcl (tyl cA) (wC cA a σ) (XC ad) A s H locs) (hl : lv_has ls 4 [(0, .ref (a 1)), (1, .int x1), (2, .int x2)]) : W p l e r_M_moveWord s m args below meth c H locs 0 0 Q (F0 m 0 ls []) := by
  have hx := fx.1
  have hb := fx.2.1
  unfold f_M_moveWord at h
  refine lv_iload_n (pc := 0) hx hb d_M_moveWord_0 rfl (lv_at hl 1 rfl) ?_
  refine lv_iconst (pc := 1) (v := 3) hx hb d_M_moveWord_1 (by decide) ?_
  refine lv_iand (pc := 2) hx hb d_M_moveWord_2 ?_
  refine lv_topi (fun x3_3 e9 => ?_)
  replace h := nm_u h e9
  clear e9
  refine lv_istore_n (pc := 3) (lv' := [(3, .int x3_3), (0, .ref (a 1)), (1, .int x1), (2, .int x2)]) hx hb d_M_moveWord_3 rfl hl (by decide) rfl (fun ls hl => ?_)
  refine lv_iload_n (pc := 4) hx hb d_M_moveWord_4 rfl (lv_at hl 2 rfl) ?_
  refine lv_bipush (pc := 5) (v := 8) hx hb d_M_moveWord_5 (by decide) ?_
  refine lv_icmp_ge (pc := 7) (tgt := 24) hx hb d_M_moveWord_7 (by decide) (fun c9 => ?_) (fun c9 => ?_)
  · replace h := h.1 c9
    refine lv_aload_n (pc := 24) hx hb d_M_moveWord_24 rfl (lv_at hl 1 rfl) ?_
    refine lv_iload_n (pc := 25) hx hb d_M_moveWord_25 rfl (lv_at hl 3 rfl) ?_
    refine lv_aload_n (pc := 26) hx hb d_M_moveWord_26 rfl (lv_at hl 1 rfl) ?_
    refine gC_1_accumulators (pc := 27) fx hw kw_123 d_M_moveWord_27 ?_
    refine lv_iload_n (pc := 30) hx hb d_M_moveWord_30 rfl (lv_at hl 0 rfl) ?_
    refine alC_3 (pc := 31) fx hw h.1 d_M_moveWord_31 ?_
    replace h := h.2
    refine rsV (pc := 32) hw (rnV (pc := 32) xtC fx hw (c_M_store h _) cw_M_116 (rcC_1 hw) rfl ⟨Nat.le_of_ble_eq_true rfl, Nat.le_of_ble_eq_true rfl⟩ hl.1 (Nat.le_of_ble_eq_true rfl) d_M_moveWord_32 ⟨Nat.zero_le _, Nat.zero_le _⟩) (fun σ_4 H locs hw h => ?_)
    exact c_M_moveWord_35  fx HR h hw (lv_sub hl [1] rfl)
  · replace h := h.2 c9
    refine lv_aload_n (pc := 10) hx hb d_M_moveWord_10 rfl (lv_at hl 1 rfl) ?_
    refine gC_1_accumulators (pc := 11) fx hw kw_123 d_M_moveWord_11 ?_
    refine lv_iload_n (pc := 14) hx hb d_M_moveWord_14 rfl (lv_at hl 0 rfl) ?_
    refine lv_aload_n (pc := 15) hx hb d_M_moveWord_15 rfl (lv_at hl 1 rfl) ?_
    refine lv_iload_n (pc := 16) hx hb d_M_moveWord_16 rfl (lv_at hl 3 rfl) ?_
    refine rsI (pc := 17) hw (rnV (pc := 17) xtC fx hw (c_M_load h _) cw_M_98 (rcC_1 hw) rfl ⟨Nat.le_of_ble_eq_true rfl, Nat.le_of_ble_eq_true rfl⟩ hl.1 (Nat.le_of_ble_eq_true rfl) d_M_moveWord_17 ⟨Nat.zero_le _, Nat.zero_le _⟩) (fun r_7 σ_6 H locs hw h => ?_)
    refine asC_3 (pc := 20) fx hw h.1 d_M_moveWord_20 (fun σ_8 e9 H locs hw => ?_)
    replace h := nm_u h.2 e9
    clear e9
    refine lv_goto (pc := 21) (tgt := 35) hx hb d_M_moveWord_21 (by decide) ?_
    exact c_M_moveWord_35  fx HR h hw (lv_sub hl [1] rfl)
end
theorem c_M_moveWord {l : Launch} {D : va_G} {cA : Nat → ClassId} {a : Nat → Nat} {ad : Nat → Nat → Nat} {σ : SS} {post : SS → Prop} {x1 : Int32} {x2 : Int32} (h : f_M_moveWord post σ x1 x2) : mV l y_M_moveWord b_M_moveWord 4 none 1 22 D vcl (tyl cA) (wC cA a) (XC ad) σ [.ref (a 1), .int x1, .int x2] post := met_V (by decide) (Nat.le_of_ble_eq_true rfl) (fun p e s m args below meth c A Q fx HR H ls hw hl => e_M_moveWord  fx HR h hw hl)
abbrev r_M_useMemory : Room := { frames := 2, cells := 0, slots := 0, locals := 45 }
def f_M_useMemory_79 (post : SS → Prop) (σ : SS) (s0 : Int32) : Prop := f_M_goOn (fun σ_1 => post σ_1) σ s0
def f_M_useMemory_100 (post : SS → Prop) (σ : SS) (s0 : Int32) : Prop := f_M_goOn (fun σ_3 => post σ_3) σ s0
def f_M_useMemory (post : SS → Prop) (σ : SS) (x1 : Int32) (x2 : Int32) : Prop := br (x1 = (0 : Int32)) (nm (sI σ 1 x2) fun σ_6 => post σ_6) (br (x1 = (1 : Int32)) (vp_in (3 : Int32) 4 ∧ nm (sA σ 3 (3 : Int32).toNatClampNeg (((σ.1 1) + 1) &&& 32767)) fun σ_8 => nm (sI σ_8 1 x2) fun σ_9 => post σ_9) (br (x1 = (2 : Int32)) (f_M_countAt (fun r_12 σ_11 => br (r_12 = 0) (f_M_useMemory_79 post σ_11 1) (f_M_useMemory_79 post σ_11 0)) σ x2 1) (br (x1 = (3 : Int32)) (f_M_countAt (fun r_15 σ_14 => br (r_15 = 0) (f_M_useMemory_100 post σ_14 1) (f_M_useMemory_100 post σ_14 0)) σ x2 (-1)) (f_M_moveWord (fun σ_16 => post σ_16) σ x1 x2))))
section
variable {p : Program} {l : Launch} {e : Env} {s : State} {m : MethodId} {args : Array Value} {below : List Frame} {meth : Method} {c : Code} {Q : State → Prop} {D : va_G} {cA : Nat → ClassId} {a : Nat → Nat} {ad : Nat → Nat → Nat} {A : Nat → Prop}
set_option maxHeartbeats 4000000 in
set_option maxRecDepth 100000 in
theorem c_M_useMemory_79 (fx : CallFix p m c b_M_useMemory 3 s args GW RNM) {post : SS → Prop} (HR : RetV p l e r_M_useMemory s m args below meth c Q D vcl (tyl cA) (wC cA a) (XC ad) A b_M_useMemory post) {σ : SS} {s0 : Int32} {H : Heap} {locs : List Loc} {ls : Array Slot} (h : f_M_useMemory_79 post σ s0) (hw : CX D vcl (tyl cA) (wC cA a σ) (XC ad) A s H locs) (hl : lv_has ls 3 []) : W p l e r_M_useMemory s m args below meth c H locs 0 0 Q (F0 m 79 ls [.int s0, .ref (a 1)]) := by
  have hx := fx.1
  have hb := fx.2.1
  unfold f_M_useMemory_79 at h
  refine rsV (pc := 79) hw (rnV (pc := 79) xtC fx hw (c_M_goOn h _) cw_M_126 (rcC_1 hw) rfl ⟨Nat.le_of_ble_eq_true rfl, Nat.le_of_ble_eq_true rfl⟩ hl.1 (Nat.le_of_ble_eq_true rfl) d_M_useMemory_79 ⟨Nat.zero_le _, Nat.zero_le _⟩) (fun σ_1 H locs hw h => ?_)
  refine lv_goto (pc := 82) (tgt := 112) hx hb d_M_useMemory_82 (by decide) ?_
  exact HR d_M_useMemory_112 h hw
set_option maxHeartbeats 4000000 in
set_option maxRecDepth 100000 in
theorem c_M_useMemory_100 (fx : CallFix p m c b_M_useMemory 3 s args GW RNM) {post : SS → Prop} (HR : RetV p l e r_M_useMemory s m args below meth c Q D vcl (tyl cA) (wC cA a) (XC ad) A b_M_useMemory post) {σ : SS} {s0 : Int32} {H : Heap} {locs : List Loc} {ls : Array Slot} (h : f_M_useMemory_100 post σ s0) (hw : CX D vcl (tyl cA) (wC cA a σ) (XC ad) A s H locs) (hl : lv_has ls 3 []) : W p l e r_M_useMemory s m args below meth c H locs 0 0 Q (F0 m 100 ls [.int s0, .ref (a 1)]) := by
  have hx := fx.1
  have hb := fx.2.1
  unfold f_M_useMemory_100 at h
  refine rsV (pc := 100) hw (rnV (pc := 100) xtC fx hw (c_M_goOn h _) cw_M_126 (rcC_1 hw) rfl ⟨Nat.le_of_ble_eq_true rfl, Nat.le_of_ble_eq_true rfl⟩ hl.1 (Nat.le_of_ble_eq_true rfl) d_M_useMemory_100 ⟨Nat.zero_le _, Nat.zero_le _⟩) (fun σ_3 H locs hw h => ?_)
  refine lv_goto (pc := 103) (tgt := 112) hx hb d_M_useMemory_103 (by decide) ?_
  exact HR d_M_useMemory_112 h hw
set_option maxHeartbeats 4000000 in
set_option maxRecDepth 100000 in
theorem e_M_useMemory (fx : CallFix p m c b_M_useMemory 3 s args GW RNM) {post : SS → Prop} (HR : RetV p l e r_M_useMemory s m args below meth c Q D vcl (tyl cA) (wC cA a) (XC ad) A b_M_useMemory post) {σ : SS} {x1 : Int32} {x2 : Int32} {H : Heap} {locs : List Loc} {ls : Array Slot} (h : f_M_useMemory post σ x1 x2) (hw : CX D vcl (tyl cA) (wC cA a σ) (XC ad) A s H locs) (hl : lv_has ls 3 [(0, .ref (a 1)), (1, .int x1), (2, .int x2)]) : W p l e r_M_useMemory s m args below meth c H locs 0 0 Q (F0 m 0 ls []) := by
  have hx := fx.1
  have hb := fx.2.1
  unfold f_M_useMemory at h
  refine lv_iload_n (pc := 0) hx hb d_M_useMemory_0 rfl (lv_at hl 1 rfl) ?_
  by_cases cq_5 : x1 = (0 : Int32)
  · replace h := h.1 cq_5
    refine lv_tableIn (pc := 1) (off := 31) (tgt := 32) hx hb d_M_useMemory_1 (by rw [cq_5]; decide) (by rw [cq_5]; decide) (by rw [cq_5]; rfl) (by decide) ?_
    refine lv_aload_n (pc := 32) hx hb d_M_useMemory_32 rfl (lv_at hl 0 rfl) ?_
    refine lv_iload_n (pc := 33) hx hb d_M_useMemory_33 rfl (lv_at hl 2 rfl) ?_
    refine pC_1_pc (pc := 34) fx hw kw_130 d_M_useMemory_34 (fun σ_6 e9 H locs hw => ?_)
    replace h := nm_u h e9
    clear e9
    refine lv_goto (pc := 37) (tgt := 112) hx hb d_M_useMemory_37 (by decide) ?_
    exact HR d_M_useMemory_112 h hw
  replace h := h.2 cq_5
  by_cases cq_7 : x1 = (1 : Int32)
  · replace h := h.1 cq_7
    refine lv_tableIn (pc := 1) (off := 39) (tgt := 40) hx hb d_M_useMemory_1 (by rw [cq_7]; decide) (by rw [cq_7]; decide) (by rw [cq_7]; rfl) (by decide) ?_
    refine lv_aload_n (pc := 40) hx hb d_M_useMemory_40 rfl (lv_at hl 0 rfl) ?_
    refine gC_1_accumulators (pc := 41) fx hw kw_123 d_M_useMemory_41 ?_
    refine lv_iconst (pc := 44) (v := 3) hx hb d_M_useMemory_44 (by decide) ?_
    refine lv_aload_n (pc := 45) hx hb d_M_useMemory_45 rfl (lv_at hl 0 rfl) ?_
    refine gC_1_pc (pc := 46) fx hw kw_130 d_M_useMemory_46 ?_
    refine lv_iconst (pc := 49) (v := 1) hx hb d_M_useMemory_49 (by decide) ?_
    refine lv_iadd (pc := 50) hx hb d_M_useMemory_50 ?_
    refine lv_sipush (pc := 51) (v := 32767) hx hb d_M_useMemory_51 (by decide) ?_
    refine lv_iand (pc := 54) hx hb d_M_useMemory_54 ?_
    refine asC_3 (pc := 55) fx hw h.1 d_M_useMemory_55 (fun σ_8 e9 H locs hw => ?_)
    replace h := nm_u h.2 e9
    clear e9
    refine lv_aload_n (pc := 56) hx hb d_M_useMemory_56 rfl (lv_at hl 0 rfl) ?_
    refine lv_iload_n (pc := 57) hx hb d_M_useMemory_57 rfl (lv_at hl 2 rfl) ?_
    refine pC_1_pc (pc := 58) fx hw kw_130 d_M_useMemory_58 (fun σ_9 e9 H locs hw => ?_)
    replace h := nm_u h e9
    clear e9
    refine lv_goto (pc := 61) (tgt := 112) hx hb d_M_useMemory_61 (by decide) ?_
    exact HR d_M_useMemory_112 h hw
  replace h := h.2 cq_7
  by_cases cq_10 : x1 = (2 : Int32)
  · replace h := h.1 cq_10
    refine lv_tableIn (pc := 1) (off := 63) (tgt := 64) hx hb d_M_useMemory_1 (by rw [cq_10]; decide) (by rw [cq_10]; decide) (by rw [cq_10]; rfl) (by decide) ?_
    refine lv_aload_n (pc := 64) hx hb d_M_useMemory_64 rfl (lv_at hl 0 rfl) ?_
    refine lv_aload_n (pc := 65) hx hb d_M_useMemory_65 rfl (lv_at hl 0 rfl) ?_
    refine lv_iload_n (pc := 66) hx hb d_M_useMemory_66 rfl (lv_at hl 2 rfl) ?_
    refine lv_iconst (pc := 67) (v := 1) hx hb d_M_useMemory_67 (by decide) ?_
    refine rsI (pc := 68) hw (rnV (pc := 68) xtC fx hw (c_M_countAt h _) cw_M_139 (rcC_1 hw) rfl ⟨Nat.le_of_ble_eq_true rfl, Nat.le_of_ble_eq_true rfl⟩ hl.1 (Nat.le_of_ble_eq_true rfl) d_M_useMemory_68 ⟨Nat.zero_le _, Nat.zero_le _⟩) (fun r_12 σ_11 H locs hw h => ?_)
    refine lv_if_ne (pc := 71) (tgt := 78) hx hb d_M_useMemory_71 (by decide) (fun c9 => ?_) (fun c9 => ?_)
    · replace h := h.2 c9
      refine lv_iconst (pc := 78) (v := 0) hx hb d_M_useMemory_78 (by decide) ?_
      exact c_M_useMemory_79  fx HR h hw (lv_sub hl [] rfl)
    · replace h := h.1 c9
      refine lv_iconst (pc := 74) (v := 1) hx hb d_M_useMemory_74 (by decide) ?_
      refine lv_goto (pc := 75) (tgt := 79) hx hb d_M_useMemory_75 (by decide) ?_
      exact c_M_useMemory_79  fx HR h hw (lv_sub hl [] rfl)
  replace h := h.2 cq_10
  by_cases cq_13 : x1 = (3 : Int32)
  · replace h := h.1 cq_13
    refine lv_tableIn (pc := 1) (off := 84) (tgt := 85) hx hb d_M_useMemory_1 (by rw [cq_13]; decide) (by rw [cq_13]; decide) (by rw [cq_13]; rfl) (by decide) ?_
    refine lv_aload_n (pc := 85) hx hb d_M_useMemory_85 rfl (lv_at hl 0 rfl) ?_
    refine lv_aload_n (pc := 86) hx hb d_M_useMemory_86 rfl (lv_at hl 0 rfl) ?_
    refine lv_iload_n (pc := 87) hx hb d_M_useMemory_87 rfl (lv_at hl 2 rfl) ?_
    refine lv_iconst (pc := 88) (v := (-1)) hx hb d_M_useMemory_88 (by decide) ?_
    refine rsI (pc := 89) hw (rnV (pc := 89) xtC fx hw (c_M_countAt h _) cw_M_139 (rcC_1 hw) rfl ⟨Nat.le_of_ble_eq_true rfl, Nat.le_of_ble_eq_true rfl⟩ hl.1 (Nat.le_of_ble_eq_true rfl) d_M_useMemory_89 ⟨Nat.zero_le _, Nat.zero_le _⟩) (fun r_15 σ_14 H locs hw h => ?_)
    refine lv_if_ne (pc := 92) (tgt := 99) hx hb d_M_useMemory_92 (by decide) (fun c9 => ?_) (fun c9 => ?_)
    · replace h := h.2 c9
      refine lv_iconst (pc := 99) (v := 0) hx hb d_M_useMemory_99 (by decide) ?_
      exact c_M_useMemory_100  fx HR h hw (lv_sub hl [] rfl)
    · replace h := h.1 c9
      refine lv_iconst (pc := 95) (v := 1) hx hb d_M_useMemory_95 (by decide) ?_
      refine lv_goto (pc := 96) (tgt := 100) hx hb d_M_useMemory_96 (by decide) ?_
      exact c_M_useMemory_100  fx HR h hw (lv_sub hl [] rfl)
  replace h := h.2 cq_13
  refine lv_tableOut (pc := 1) (tgt := 106) hx hb d_M_useMemory_1 (by have := lv_neT cq_5 (a := 0) (by decide); have := lv_neT cq_7 (a := 1) (by decide); have := lv_neT cq_10 (a := 2) (by decide); have := lv_neT cq_13 (a := 3) (by decide); omega) (by decide) ?_
  refine lv_aload_n (pc := 106) hx hb d_M_useMemory_106 rfl (lv_at hl 0 rfl) ?_
  refine lv_iload_n (pc := 107) hx hb d_M_useMemory_107 rfl (lv_at hl 1 rfl) ?_
  refine lv_iload_n (pc := 108) hx hb d_M_useMemory_108 rfl (lv_at hl 2 rfl) ?_
  refine rsV (pc := 109) hw (rnV (pc := 109) xtC fx hw (c_M_moveWord h _) cw_M_143 (rcC_1 hw) rfl ⟨Nat.le_of_ble_eq_true rfl, Nat.le_of_ble_eq_true rfl⟩ hl.1 (Nat.le_of_ble_eq_true rfl) d_M_useMemory_109 ⟨Nat.zero_le _, Nat.zero_le _⟩) (fun σ_16 H locs hw h => ?_)
  exact HR d_M_useMemory_112 h hw
end
theorem c_M_useMemory {l : Launch} {D : va_G} {cA : Nat → ClassId} {a : Nat → Nat} {ad : Nat → Nat → Nat} {σ : SS} {post : SS → Prop} {x1 : Int32} {x2 : Int32} (h : f_M_useMemory post σ x1 x2) : mV l y_M_useMemory b_M_useMemory 3 none 2 45 D vcl (tyl cA) (wC cA a) (XC ad) σ [.ref (a 1), .int x1, .int x2] post := met_V (by decide) (Nat.le_of_ble_eq_true rfl) (fun p e s m args below meth c A Q fx HR H ls hw hl => e_M_useMemory  fx HR h hw hl)
abbrev r_D_start_6 : Room := { frames := 0, cells := 0, slots := 0, locals := 0 }
def f_D_start_6 (post : SS → Prop) (σ : SS) : Prop := nm (sI σ 16 1) fun σ_1 => nm (sI σ_1 17 0) fun σ_2 => nm (sI σ_2 18 0) fun σ_3 => post σ_3
section
variable {p : Program} {l : Launch} {e : Env} {s : State} {m : MethodId} {args : Array Value} {below : List Frame} {meth : Method} {c : Code} {Q : State → Prop} {D : va_G} {cA : Nat → ClassId} {a : Nat → Nat} {ad : Nat → Nat → Nat} {A : Nat → Prop}
set_option maxHeartbeats 4000000 in
set_option maxRecDepth 100000 in
theorem e_D_start_6 (fx : CallFix p m c b_D_start 1 s args GW "NovaDesk$Device") {post : SS → Prop} (HR : RetV p l e r_D_start_6 s m args below meth c Q D vcl (tyl cA) (wC cA a) (XC ad) A b_D_start post) {σ : SS} {H : Heap} {locs : List Loc} {ls : Array Slot} (h : f_D_start_6 post σ) (hw : CX D vcl (tyl cA) (wC cA a σ) (XC ad) A s H locs) (hl : lv_has ls 1 [(0, .ref (a 6))]) : W p l e r_D_start_6 s m args below meth c H locs 0 0 Q (F0 m 0 ls []) := by
  have hx := fx.1
  have hb := fx.2.1
  unfold f_D_start_6 at h
  refine lv_aload_n (pc := 0) hx hb d_D_start_0 rfl (lv_at hl 0 rfl) ?_
  refine lv_iconst (pc := 1) (v := 1) hx hb d_D_start_1 (by decide) ?_
  refine pC_6_busy (pc := 2) fx hw kw_62 bz_1 d_D_start_2 (fun σ_1 e9 H locs hw => ?_)
  replace h := nm_u h e9
  clear e9
  refine lv_aload_n (pc := 5) hx hb d_D_start_5 rfl (lv_at hl 0 rfl) ?_
  refine lv_iconst (pc := 6) (v := 0) hx hb d_D_start_6 (by decide) ?_
  refine pC_6_done (pc := 7) fx hw kw_64 bz_0 d_D_start_7 (fun σ_2 e9 H locs hw => ?_)
  replace h := nm_u h e9
  clear e9
  refine lv_aload_n (pc := 10) hx hb d_D_start_10 rfl (lv_at hl 0 rfl) ?_
  refine lv_iconst (pc := 11) (v := 0) hx hb d_D_start_11 (by decide) ?_
  refine pC_6_ticks (pc := 12) fx hw kw_66 d_D_start_12 (fun σ_3 e9 H locs hw => ?_)
  replace h := nm_u h e9
  clear e9
  exact HR d_D_start_15 h hw
end
theorem c_D_start_6 {l : Launch} {D : va_G} {cA : Nat → ClassId} {a : Nat → Nat} {ad : Nat → Nat → Nat} {σ : SS} {post : SS → Prop} (h : f_D_start_6 post σ) : mV l y_D_start b_D_start 1 none 0 0 D vcl (tyl cA) (wC cA a) (XC ad) σ [.ref (a 6)] post := met_V (by decide) (Nat.le_of_ble_eq_true rfl) (fun p e s m args below meth c A Q fx HR H ls hw hl => e_D_start_6  fx HR h hw hl)
abbrev r_D_start_8 : Room := { frames := 0, cells := 0, slots := 0, locals := 0 }
def f_D_start_8 (post : SS → Prop) (σ : SS) : Prop := nm (sI σ 21 1) fun σ_1 => nm (sI σ_1 22 0) fun σ_2 => nm (sI σ_2 23 0) fun σ_3 => post σ_3
section
variable {p : Program} {l : Launch} {e : Env} {s : State} {m : MethodId} {args : Array Value} {below : List Frame} {meth : Method} {c : Code} {Q : State → Prop} {D : va_G} {cA : Nat → ClassId} {a : Nat → Nat} {ad : Nat → Nat → Nat} {A : Nat → Prop}
set_option maxHeartbeats 4000000 in
set_option maxRecDepth 100000 in
theorem e_D_start_8 (fx : CallFix p m c b_D_start 1 s args GW "NovaDesk$Device") {post : SS → Prop} (HR : RetV p l e r_D_start_8 s m args below meth c Q D vcl (tyl cA) (wC cA a) (XC ad) A b_D_start post) {σ : SS} {H : Heap} {locs : List Loc} {ls : Array Slot} (h : f_D_start_8 post σ) (hw : CX D vcl (tyl cA) (wC cA a σ) (XC ad) A s H locs) (hl : lv_has ls 1 [(0, .ref (a 8))]) : W p l e r_D_start_8 s m args below meth c H locs 0 0 Q (F0 m 0 ls []) := by
  have hx := fx.1
  have hb := fx.2.1
  unfold f_D_start_8 at h
  refine lv_aload_n (pc := 0) hx hb d_D_start_0 rfl (lv_at hl 0 rfl) ?_
  refine lv_iconst (pc := 1) (v := 1) hx hb d_D_start_1 (by decide) ?_
  refine pC_8_busy (pc := 2) fx hw kw_62 bz_1 d_D_start_2 (fun σ_1 e9 H locs hw => ?_)
  replace h := nm_u h e9
  clear e9
  refine lv_aload_n (pc := 5) hx hb d_D_start_5 rfl (lv_at hl 0 rfl) ?_
  refine lv_iconst (pc := 6) (v := 0) hx hb d_D_start_6 (by decide) ?_
  refine pC_8_done (pc := 7) fx hw kw_64 bz_0 d_D_start_7 (fun σ_2 e9 H locs hw => ?_)
  replace h := nm_u h e9
  clear e9
  refine lv_aload_n (pc := 10) hx hb d_D_start_10 rfl (lv_at hl 0 rfl) ?_
  refine lv_iconst (pc := 11) (v := 0) hx hb d_D_start_11 (by decide) ?_
  refine pC_8_ticks (pc := 12) fx hw kw_66 d_D_start_12 (fun σ_3 e9 H locs hw => ?_)
  replace h := nm_u h e9
  clear e9
  exact HR d_D_start_15 h hw
end
theorem c_D_start_8 {l : Launch} {D : va_G} {cA : Nat → ClassId} {a : Nat → Nat} {ad : Nat → Nat → Nat} {σ : SS} {post : SS → Prop} (h : f_D_start_8 post σ) : mV l y_D_start b_D_start 1 none 0 0 D vcl (tyl cA) (wC cA a) (XC ad) σ [.ref (a 8)] post := met_V (by decide) (Nat.le_of_ble_eq_true rfl) (fun p e s m args below meth c A Q fx HR H ls hw hl => e_D_start_8  fx HR h hw hl)
abbrev r_D_start_4 : Room := { frames := 0, cells := 0, slots := 0, locals := 0 }
def f_D_start_4 (post : SS → Prop) (σ : SS) : Prop := nm (sI σ 10 1) fun σ_1 => nm (sI σ_1 11 0) fun σ_2 => nm (sI σ_2 12 0) fun σ_3 => post σ_3
section
variable {p : Program} {l : Launch} {e : Env} {s : State} {m : MethodId} {args : Array Value} {below : List Frame} {meth : Method} {c : Code} {Q : State → Prop} {D : va_G} {cA : Nat → ClassId} {a : Nat → Nat} {ad : Nat → Nat → Nat} {A : Nat → Prop}
set_option maxHeartbeats 4000000 in
set_option maxRecDepth 100000 in
theorem e_D_start_4 (fx : CallFix p m c b_D_start 1 s args GW "NovaDesk$Device") {post : SS → Prop} (HR : RetV p l e r_D_start_4 s m args below meth c Q D vcl (tyl cA) (wC cA a) (XC ad) A b_D_start post) {σ : SS} {H : Heap} {locs : List Loc} {ls : Array Slot} (h : f_D_start_4 post σ) (hw : CX D vcl (tyl cA) (wC cA a σ) (XC ad) A s H locs) (hl : lv_has ls 1 [(0, .ref (a 4))]) : W p l e r_D_start_4 s m args below meth c H locs 0 0 Q (F0 m 0 ls []) := by
  have hx := fx.1
  have hb := fx.2.1
  unfold f_D_start_4 at h
  refine lv_aload_n (pc := 0) hx hb d_D_start_0 rfl (lv_at hl 0 rfl) ?_
  refine lv_iconst (pc := 1) (v := 1) hx hb d_D_start_1 (by decide) ?_
  refine pC_4_busy (pc := 2) fx hw kw_62 bz_1 d_D_start_2 (fun σ_1 e9 H locs hw => ?_)
  replace h := nm_u h e9
  clear e9
  refine lv_aload_n (pc := 5) hx hb d_D_start_5 rfl (lv_at hl 0 rfl) ?_
  refine lv_iconst (pc := 6) (v := 0) hx hb d_D_start_6 (by decide) ?_
  refine pC_4_done (pc := 7) fx hw kw_64 bz_0 d_D_start_7 (fun σ_2 e9 H locs hw => ?_)
  replace h := nm_u h e9
  clear e9
  refine lv_aload_n (pc := 10) hx hb d_D_start_10 rfl (lv_at hl 0 rfl) ?_
  refine lv_iconst (pc := 11) (v := 0) hx hb d_D_start_11 (by decide) ?_
  refine pC_4_ticks (pc := 12) fx hw kw_66 d_D_start_12 (fun σ_3 e9 H locs hw => ?_)
  replace h := nm_u h e9
  clear e9
  exact HR d_D_start_15 h hw
end
theorem c_D_start_4 {l : Launch} {D : va_G} {cA : Nat → ClassId} {a : Nat → Nat} {ad : Nat → Nat → Nat} {σ : SS} {post : SS → Prop} (h : f_D_start_4 post σ) : mV l y_D_start b_D_start 1 none 0 0 D vcl (tyl cA) (wC cA a) (XC ad) σ [.ref (a 4)] post := met_V (by decide) (Nat.le_of_ble_eq_true rfl) (fun p e s m args below meth c A Q fx HR H ls hw hl => e_D_start_4  fx HR h hw hl)
abbrev r_D_output_4 : Room := { frames := 0, cells := 0, slots := 0, locals := 0 }
def f_D_output_4 (post : SS → Prop) (σ : SS) (x1 : Int32) (x2 : Int32) : Prop := post σ
section
variable {p : Program} {l : Launch} {e : Env} {s : State} {m : MethodId} {args : Array Value} {below : List Frame} {meth : Method} {c : Code} {Q : State → Prop} {D : va_G} {cA : Nat → ClassId} {a : Nat → Nat} {ad : Nat → Nat → Nat} {A : Nat → Prop}
set_option maxHeartbeats 4000000 in
set_option maxRecDepth 100000 in
theorem e_D_output_4 (fx : CallFix p m c b_D_output 3 s args GW "NovaDesk$Device") {post : SS → Prop} (HR : RetV p l e r_D_output_4 s m args below meth c Q D vcl (tyl cA) (wC cA a) (XC ad) A b_D_output post) {σ : SS} {x1 : Int32} {x2 : Int32} {H : Heap} {locs : List Loc} {ls : Array Slot} (h : f_D_output_4 post σ x1 x2) (hw : CX D vcl (tyl cA) (wC cA a σ) (XC ad) A s H locs) (hl : lv_has ls 3 [(0, .ref (a 4)), (1, .int x1), (2, .int x2)]) : W p l e r_D_output_4 s m args below meth c H locs 0 0 Q (F0 m 0 ls []) := by
  have hx := fx.1
  have hb := fx.2.1
  unfold f_D_output_4 at h
  exact HR d_D_output_0 h hw
end
theorem c_D_output_4 {l : Launch} {D : va_G} {cA : Nat → ClassId} {a : Nat → Nat} {ad : Nat → Nat → Nat} {σ : SS} {post : SS → Prop} {x1 : Int32} {x2 : Int32} (h : f_D_output_4 post σ x1 x2) : mV l y_D_output b_D_output 3 none 0 0 D vcl (tyl cA) (wC cA a) (XC ad) σ [.ref (a 4), .int x1, .int x2] post := met_V (by decide) (Nat.le_of_ble_eq_true rfl) (fun p e s m args below meth c A Q fx HR H ls hw hl => e_D_output_4  fx HR h hw hl)
abbrev r_E_input : Room := { frames := 0, cells := 0, slots := 0, locals := 0 }
def f_E_input (post : Int32 → SS → Prop) (σ : SS) (x1 : Int32) : Prop := br (x1 = 1) (post (σ.1 9) σ) (post 0 σ)
section
variable {p : Program} {l : Launch} {e : Env} {s : State} {m : MethodId} {args : Array Value} {below : List Frame} {meth : Method} {c : Code} {Q : State → Prop} {D : va_G} {cA : Nat → ClassId} {a : Nat → Nat} {ad : Nat → Nat → Nat} {A : Nat → Prop}
set_option maxHeartbeats 4000000 in
set_option maxRecDepth 100000 in
theorem e_E_input (fx : CallFix p m c b_E_input 2 s args GW RNE) {post : Int32 → SS → Prop} (HR : RetI p l e r_E_input s m args below meth c Q D vcl (tyl cA) (wC cA a) (XC ad) A b_E_input .int post) {σ : SS} {x1 : Int32} {H : Heap} {locs : List Loc} {ls : Array Slot} (h : f_E_input post σ x1) (hw : CX D vcl (tyl cA) (wC cA a σ) (XC ad) A s H locs) (hl : lv_has ls 2 [(0, .ref (a 4)), (1, .int x1)]) : W p l e r_E_input s m args below meth c H locs 0 0 Q (F0 m 0 ls []) := by
  have hx := fx.1
  have hb := fx.2.1
  unfold f_E_input at h
  refine lv_iload_n (pc := 0) hx hb d_E_input_0 rfl (lv_at hl 1 rfl) ?_
  refine lv_iconst (pc := 1) (v := 1) hx hb d_E_input_1 (by decide) ?_
  refine lv_icmp_ne (pc := 2) (tgt := 12) hx hb d_E_input_2 (by decide) (fun c9 => ?_) (fun c9 => ?_)
  · replace h := h.2 c9
    refine lv_iconst (pc := 12) (v := 0) hx hb d_E_input_12 (by decide) ?_
    exact HR rfl d_E_input_13 h hw
  · replace h := h.1 c9
    refine lv_aload_n (pc := 5) hx hb d_E_input_5 rfl (lv_at hl 0 rfl) ?_
    refine gC_4_held_r (pc := 6) fx hw kw_58 d_E_input_6 ?_
    refine lv_goto (pc := 9) (tgt := 13) hx hb d_E_input_9 (by decide) ?_
    exact HR rfl d_E_input_13 h hw
end
theorem c_E_input {l : Launch} {D : va_G} {cA : Nat → ClassId} {a : Nat → Nat} {ad : Nat → Nat → Nat} {σ : SS} {post : Int32 → SS → Prop} {x1 : Int32} (h : f_E_input post σ x1) : mI l y_E_input b_E_input 2 (some .int) 0 0 D vcl (tyl cA) (wC cA a) (XC ad) σ [.ref (a 4), .int x1] post := met_I (by decide) (Nat.le_of_ble_eq_true rfl) (fun p e s m args below meth c A Q fx HR H ls hw hl => e_E_input  fx HR h hw hl)
abbrev r_D_passes_4 : Room := { frames := 0, cells := 0, slots := 0, locals := 0 }
def f_D_passes_4 (post : Int32 → SS → Prop) (σ : SS) (x1 : Int32) : Prop := br (x1 = (0 : Int32)) (bz (σ.1 10) ∧ post (σ.1 10) σ) (br (x1 = (1 : Int32)) (br ((σ.1 10) = 0) (post 1 σ) (post 0 σ)) (br (x1 = (2 : Int32)) (bz (σ.1 11) ∧ post (σ.1 11) σ) (br ((σ.1 11) = 0) (post 1 σ) (post 0 σ))))
section
variable {p : Program} {l : Launch} {e : Env} {s : State} {m : MethodId} {args : Array Value} {below : List Frame} {meth : Method} {c : Code} {Q : State → Prop} {D : va_G} {cA : Nat → ClassId} {a : Nat → Nat} {ad : Nat → Nat → Nat} {A : Nat → Prop}
set_option maxHeartbeats 4000000 in
set_option maxRecDepth 100000 in
theorem e_D_passes_4 (fx : CallFix p m c b_D_passes 2 s args GW "NovaDesk$Device") {post : Int32 → SS → Prop} (HR : RetI p l e r_D_passes_4 s m args below meth c Q D vcl (tyl cA) (wC cA a) (XC ad) A b_D_passes .boolean (fun r σ => bz r ∧ post r σ)) {σ : SS} {x1 : Int32} {H : Heap} {locs : List Loc} {ls : Array Slot} (h : f_D_passes_4 post σ x1) (hw : CX D vcl (tyl cA) (wC cA a σ) (XC ad) A s H locs) (hl : lv_has ls 2 [(0, .ref (a 4)), (1, .int x1)]) : W p l e r_D_passes_4 s m args below meth c H locs 0 0 Q (F0 m 0 ls []) := by
  have hx := fx.1
  have hb := fx.2.1
  unfold f_D_passes_4 at h
  refine lv_iload_n (pc := 0) hx hb d_D_passes_0 rfl (lv_at hl 1 rfl) ?_
  by_cases cq_1 : x1 = (0 : Int32)
  · replace h := h.1 cq_1
    refine lv_tableIn (pc := 1) (off := 27) (tgt := 28) hx hb d_D_passes_1 (by rw [cq_1]; decide) (by rw [cq_1]; decide) (by rw [cq_1]; rfl) (by decide) ?_
    refine lv_aload_n (pc := 28) hx hb d_D_passes_28 rfl (lv_at hl 0 rfl) ?_
    refine gC_4_busy (pc := 29) fx hw kw_62 d_D_passes_29 ?_
    exact HR (bz_n h.1) d_D_passes_32 h hw
  replace h := h.2 cq_1
  by_cases cq_2 : x1 = (1 : Int32)
  · replace h := h.1 cq_2
    refine lv_tableIn (pc := 1) (off := 32) (tgt := 33) hx hb d_D_passes_1 (by rw [cq_2]; decide) (by rw [cq_2]; decide) (by rw [cq_2]; rfl) (by decide) ?_
    refine lv_aload_n (pc := 33) hx hb d_D_passes_33 rfl (lv_at hl 0 rfl) ?_
    refine gC_4_busy (pc := 34) fx hw kw_62 d_D_passes_34 ?_
    refine lv_if_ne (pc := 37) (tgt := 44) hx hb d_D_passes_37 (by decide) (fun c9 => ?_) (fun c9 => ?_)
    · replace h := h.2 c9
      refine lv_iconst (pc := 44) (v := 0) hx hb d_D_passes_44 (by decide) ?_
      exact HR (bz_n bz_0) d_D_passes_45 ⟨bz_0, h⟩ hw
    · replace h := h.1 c9
      refine lv_iconst (pc := 40) (v := 1) hx hb d_D_passes_40 (by decide) ?_
      refine lv_goto (pc := 41) (tgt := 45) hx hb d_D_passes_41 (by decide) ?_
      exact HR (bz_n bz_1) d_D_passes_45 ⟨bz_1, h⟩ hw
  replace h := h.2 cq_2
  by_cases cq_3 : x1 = (2 : Int32)
  · replace h := h.1 cq_3
    refine lv_tableIn (pc := 1) (off := 45) (tgt := 46) hx hb d_D_passes_1 (by rw [cq_3]; decide) (by rw [cq_3]; decide) (by rw [cq_3]; rfl) (by decide) ?_
    refine lv_aload_n (pc := 46) hx hb d_D_passes_46 rfl (lv_at hl 0 rfl) ?_
    refine gC_4_done (pc := 47) fx hw kw_64 d_D_passes_47 ?_
    exact HR (bz_n h.1) d_D_passes_50 h hw
  replace h := h.2 cq_3
  refine lv_tableOut (pc := 1) (tgt := 51) hx hb d_D_passes_1 (by have := lv_neT cq_1 (a := 0) (by decide); have := lv_neT cq_2 (a := 1) (by decide); have := lv_neT cq_3 (a := 2) (by decide); omega) (by decide) ?_
  refine lv_aload_n (pc := 51) hx hb d_D_passes_51 rfl (lv_at hl 0 rfl) ?_
  refine gC_4_done (pc := 52) fx hw kw_64 d_D_passes_52 ?_
  refine lv_if_ne (pc := 55) (tgt := 62) hx hb d_D_passes_55 (by decide) (fun c9 => ?_) (fun c9 => ?_)
  · replace h := h.2 c9
    refine lv_iconst (pc := 62) (v := 0) hx hb d_D_passes_62 (by decide) ?_
    exact HR (bz_n bz_0) d_D_passes_63 ⟨bz_0, h⟩ hw
  · replace h := h.1 c9
    refine lv_iconst (pc := 58) (v := 1) hx hb d_D_passes_58 (by decide) ?_
    refine lv_goto (pc := 59) (tgt := 63) hx hb d_D_passes_59 (by decide) ?_
    exact HR (bz_n bz_1) d_D_passes_63 ⟨bz_1, h⟩ hw
end
theorem c_D_passes_4 {l : Launch} {D : va_G} {cA : Nat → ClassId} {a : Nat → Nat} {ad : Nat → Nat → Nat} {σ : SS} {post : Int32 → SS → Prop} {x1 : Int32} (h : f_D_passes_4 post σ x1) : mI l y_D_passes b_D_passes 2 (some .boolean) 0 0 D vcl (tyl cA) (wC cA a) (XC ad) σ [.ref (a 4), .int x1] (fun r σ => bz r ∧ post r σ) := met_I (by decide) (Nat.le_of_ble_eq_true rfl) (fun p e s m args below meth c A Q fx HR H ls hw hl => e_D_passes_4  fx HR h hw hl)
abbrev r_P_output : Room := { frames := 0, cells := 0, slots := 0, locals := 0 }
def f_P_output (post : SS → Prop) (σ : SS) (x1 : Int32) (x2 : Int32) : Prop := br (x1 = 2) (nm (sI σ 15 (x2 &&& 255)) fun σ_1 => post σ_1) (post σ)
section
variable {p : Program} {l : Launch} {e : Env} {s : State} {m : MethodId} {args : Array Value} {below : List Frame} {meth : Method} {c : Code} {Q : State → Prop} {D : va_G} {cA : Nat → ClassId} {a : Nat → Nat} {ad : Nat → Nat → Nat} {A : Nat → Prop}
set_option maxHeartbeats 4000000 in
set_option maxRecDepth 100000 in
theorem e_P_output (fx : CallFix p m c b_P_output 3 s args GW RNP) {post : SS → Prop} (HR : RetV p l e r_P_output s m args below meth c Q D vcl (tyl cA) (wC cA a) (XC ad) A b_P_output post) {σ : SS} {x1 : Int32} {x2 : Int32} {H : Heap} {locs : List Loc} {ls : Array Slot} (h : f_P_output post σ x1 x2) (hw : CX D vcl (tyl cA) (wC cA a σ) (XC ad) A s H locs) (hl : lv_has ls 3 [(0, .ref (a 6)), (1, .int x1), (2, .int x2)]) : W p l e r_P_output s m args below meth c H locs 0 0 Q (F0 m 0 ls []) := by
  have hx := fx.1
  have hb := fx.2.1
  unfold f_P_output at h
  refine lv_iload_n (pc := 0) hx hb d_P_output_0 rfl (lv_at hl 1 rfl) ?_
  refine lv_iconst (pc := 1) (v := 2) hx hb d_P_output_1 (by decide) ?_
  refine lv_icmp_ne (pc := 2) (tgt := 14) hx hb d_P_output_2 (by decide) (fun c9 => ?_) (fun c9 => ?_)
  · replace h := h.2 c9
    exact HR d_P_output_14 h hw
  · replace h := h.1 c9
    refine lv_aload_n (pc := 5) hx hb d_P_output_5 rfl (lv_at hl 0 rfl) ?_
    refine lv_iload_n (pc := 6) hx hb d_P_output_6 rfl (lv_at hl 2 rfl) ?_
    refine lv_sipush (pc := 7) (v := 255) hx hb d_P_output_7 (by decide) ?_
    refine lv_iand (pc := 10) hx hb d_P_output_10 ?_
    refine pC_6_held_r (pc := 11) fx hw kw_56 d_P_output_11 (fun σ_1 e9 H locs hw => ?_)
    replace h := nm_u h e9
    clear e9
    exact HR d_P_output_14 h hw
end
theorem c_P_output {l : Launch} {D : va_G} {cA : Nat → ClassId} {a : Nat → Nat} {ad : Nat → Nat → Nat} {σ : SS} {post : SS → Prop} {x1 : Int32} {x2 : Int32} (h : f_P_output post σ x1 x2) : mV l y_P_output b_P_output 3 none 0 0 D vcl (tyl cA) (wC cA a) (XC ad) σ [.ref (a 6), .int x1, .int x2] post := met_V (by decide) (Nat.le_of_ble_eq_true rfl) (fun p e s m args below meth c A Q fx HR H ls hw hl => e_P_output  fx HR h hw hl)
abbrev r_D_input_6 : Room := { frames := 0, cells := 0, slots := 0, locals := 0 }
def f_D_input_6 (post : Int32 → SS → Prop) (σ : SS) (x1 : Int32) : Prop := post 0 σ
section
variable {p : Program} {l : Launch} {e : Env} {s : State} {m : MethodId} {args : Array Value} {below : List Frame} {meth : Method} {c : Code} {Q : State → Prop} {D : va_G} {cA : Nat → ClassId} {a : Nat → Nat} {ad : Nat → Nat → Nat} {A : Nat → Prop}
set_option maxHeartbeats 4000000 in
set_option maxRecDepth 100000 in
theorem e_D_input_6 (fx : CallFix p m c b_D_input 2 s args GW "NovaDesk$Device") {post : Int32 → SS → Prop} (HR : RetI p l e r_D_input_6 s m args below meth c Q D vcl (tyl cA) (wC cA a) (XC ad) A b_D_input .int post) {σ : SS} {x1 : Int32} {H : Heap} {locs : List Loc} {ls : Array Slot} (h : f_D_input_6 post σ x1) (hw : CX D vcl (tyl cA) (wC cA a σ) (XC ad) A s H locs) (hl : lv_has ls 2 [(0, .ref (a 6)), (1, .int x1)]) : W p l e r_D_input_6 s m args below meth c H locs 0 0 Q (F0 m 0 ls []) := by
  have hx := fx.1
  have hb := fx.2.1
  unfold f_D_input_6 at h
  refine lv_iconst (pc := 0) (v := 0) hx hb d_D_input_0 (by decide) ?_
  exact HR rfl d_D_input_1 h hw
end
theorem c_D_input_6 {l : Launch} {D : va_G} {cA : Nat → ClassId} {a : Nat → Nat} {ad : Nat → Nat → Nat} {σ : SS} {post : Int32 → SS → Prop} {x1 : Int32} (h : f_D_input_6 post σ x1) : mI l y_D_input b_D_input 2 (some .int) 0 0 D vcl (tyl cA) (wC cA a) (XC ad) σ [.ref (a 6), .int x1] post := met_I (by decide) (Nat.le_of_ble_eq_true rfl) (fun p e s m args below meth c A Q fx HR H ls hw hl => e_D_input_6  fx HR h hw hl)
abbrev r_D_passes_6 : Room := { frames := 0, cells := 0, slots := 0, locals := 0 }
def f_D_passes_6 (post : Int32 → SS → Prop) (σ : SS) (x1 : Int32) : Prop := br (x1 = (0 : Int32)) (bz (σ.1 16) ∧ post (σ.1 16) σ) (br (x1 = (1 : Int32)) (br ((σ.1 16) = 0) (post 1 σ) (post 0 σ)) (br (x1 = (2 : Int32)) (bz (σ.1 17) ∧ post (σ.1 17) σ) (br ((σ.1 17) = 0) (post 1 σ) (post 0 σ))))
section
variable {p : Program} {l : Launch} {e : Env} {s : State} {m : MethodId} {args : Array Value} {below : List Frame} {meth : Method} {c : Code} {Q : State → Prop} {D : va_G} {cA : Nat → ClassId} {a : Nat → Nat} {ad : Nat → Nat → Nat} {A : Nat → Prop}
set_option maxHeartbeats 4000000 in
set_option maxRecDepth 100000 in
theorem e_D_passes_6 (fx : CallFix p m c b_D_passes 2 s args GW "NovaDesk$Device") {post : Int32 → SS → Prop} (HR : RetI p l e r_D_passes_6 s m args below meth c Q D vcl (tyl cA) (wC cA a) (XC ad) A b_D_passes .boolean (fun r σ => bz r ∧ post r σ)) {σ : SS} {x1 : Int32} {H : Heap} {locs : List Loc} {ls : Array Slot} (h : f_D_passes_6 post σ x1) (hw : CX D vcl (tyl cA) (wC cA a σ) (XC ad) A s H locs) (hl : lv_has ls 2 [(0, .ref (a 6)), (1, .int x1)]) : W p l e r_D_passes_6 s m args below meth c H locs 0 0 Q (F0 m 0 ls []) := by
  have hx := fx.1
  have hb := fx.2.1
  unfold f_D_passes_6 at h
  refine lv_iload_n (pc := 0) hx hb d_D_passes_0 rfl (lv_at hl 1 rfl) ?_
  by_cases cq_1 : x1 = (0 : Int32)
  · replace h := h.1 cq_1
    refine lv_tableIn (pc := 1) (off := 27) (tgt := 28) hx hb d_D_passes_1 (by rw [cq_1]; decide) (by rw [cq_1]; decide) (by rw [cq_1]; rfl) (by decide) ?_
    refine lv_aload_n (pc := 28) hx hb d_D_passes_28 rfl (lv_at hl 0 rfl) ?_
    refine gC_6_busy (pc := 29) fx hw kw_62 d_D_passes_29 ?_
    exact HR (bz_n h.1) d_D_passes_32 h hw
  replace h := h.2 cq_1
  by_cases cq_2 : x1 = (1 : Int32)
  · replace h := h.1 cq_2
    refine lv_tableIn (pc := 1) (off := 32) (tgt := 33) hx hb d_D_passes_1 (by rw [cq_2]; decide) (by rw [cq_2]; decide) (by rw [cq_2]; rfl) (by decide) ?_
    refine lv_aload_n (pc := 33) hx hb d_D_passes_33 rfl (lv_at hl 0 rfl) ?_
    refine gC_6_busy (pc := 34) fx hw kw_62 d_D_passes_34 ?_
    refine lv_if_ne (pc := 37) (tgt := 44) hx hb d_D_passes_37 (by decide) (fun c9 => ?_) (fun c9 => ?_)
    · replace h := h.2 c9
      refine lv_iconst (pc := 44) (v := 0) hx hb d_D_passes_44 (by decide) ?_
      exact HR (bz_n bz_0) d_D_passes_45 ⟨bz_0, h⟩ hw
    · replace h := h.1 c9
      refine lv_iconst (pc := 40) (v := 1) hx hb d_D_passes_40 (by decide) ?_
      refine lv_goto (pc := 41) (tgt := 45) hx hb d_D_passes_41 (by decide) ?_
      exact HR (bz_n bz_1) d_D_passes_45 ⟨bz_1, h⟩ hw
  replace h := h.2 cq_2
  by_cases cq_3 : x1 = (2 : Int32)
  · replace h := h.1 cq_3
    refine lv_tableIn (pc := 1) (off := 45) (tgt := 46) hx hb d_D_passes_1 (by rw [cq_3]; decide) (by rw [cq_3]; decide) (by rw [cq_3]; rfl) (by decide) ?_
    refine lv_aload_n (pc := 46) hx hb d_D_passes_46 rfl (lv_at hl 0 rfl) ?_
    refine gC_6_done (pc := 47) fx hw kw_64 d_D_passes_47 ?_
    exact HR (bz_n h.1) d_D_passes_50 h hw
  replace h := h.2 cq_3
  refine lv_tableOut (pc := 1) (tgt := 51) hx hb d_D_passes_1 (by have := lv_neT cq_1 (a := 0) (by decide); have := lv_neT cq_2 (a := 1) (by decide); have := lv_neT cq_3 (a := 2) (by decide); omega) (by decide) ?_
  refine lv_aload_n (pc := 51) hx hb d_D_passes_51 rfl (lv_at hl 0 rfl) ?_
  refine gC_6_done (pc := 52) fx hw kw_64 d_D_passes_52 ?_
  refine lv_if_ne (pc := 55) (tgt := 62) hx hb d_D_passes_55 (by decide) (fun c9 => ?_) (fun c9 => ?_)
  · replace h := h.2 c9
    refine lv_iconst (pc := 62) (v := 0) hx hb d_D_passes_62 (by decide) ?_
    exact HR (bz_n bz_0) d_D_passes_63 ⟨bz_0, h⟩ hw
  · replace h := h.1 c9
    refine lv_iconst (pc := 58) (v := 1) hx hb d_D_passes_58 (by decide) ?_
    refine lv_goto (pc := 59) (tgt := 63) hx hb d_D_passes_59 (by decide) ?_
    exact HR (bz_n bz_1) d_D_passes_63 ⟨bz_1, h⟩ hw
end
theorem c_D_passes_6 {l : Launch} {D : va_G} {cA : Nat → ClassId} {a : Nat → Nat} {ad : Nat → Nat → Nat} {σ : SS} {post : Int32 → SS → Prop} {x1 : Int32} (h : f_D_passes_6 post σ x1) : mI l y_D_passes b_D_passes 2 (some .boolean) 0 0 D vcl (tyl cA) (wC cA a) (XC ad) σ [.ref (a 6), .int x1] (fun r σ => bz r ∧ post r σ) := met_I (by decide) (Nat.le_of_ble_eq_true rfl) (fun p e s m args below meth c A Q fx HR H ls hw hl => e_D_passes_6  fx HR h hw hl)
abbrev r_D_output_8 : Room := { frames := 0, cells := 0, slots := 0, locals := 0 }
def f_D_output_8 (post : SS → Prop) (σ : SS) (x1 : Int32) (x2 : Int32) : Prop := post σ
section
variable {p : Program} {l : Launch} {e : Env} {s : State} {m : MethodId} {args : Array Value} {below : List Frame} {meth : Method} {c : Code} {Q : State → Prop} {D : va_G} {cA : Nat → ClassId} {a : Nat → Nat} {ad : Nat → Nat → Nat} {A : Nat → Prop}
set_option maxHeartbeats 4000000 in
set_option maxRecDepth 100000 in
theorem e_D_output_8 (fx : CallFix p m c b_D_output 3 s args GW "NovaDesk$Device") {post : SS → Prop} (HR : RetV p l e r_D_output_8 s m args below meth c Q D vcl (tyl cA) (wC cA a) (XC ad) A b_D_output post) {σ : SS} {x1 : Int32} {x2 : Int32} {H : Heap} {locs : List Loc} {ls : Array Slot} (h : f_D_output_8 post σ x1 x2) (hw : CX D vcl (tyl cA) (wC cA a σ) (XC ad) A s H locs) (hl : lv_has ls 3 [(0, .ref (a 8)), (1, .int x1), (2, .int x2)]) : W p l e r_D_output_8 s m args below meth c H locs 0 0 Q (F0 m 0 ls []) := by
  have hx := fx.1
  have hb := fx.2.1
  unfold f_D_output_8 at h
  exact HR d_D_output_0 h hw
end
theorem c_D_output_8 {l : Launch} {D : va_G} {cA : Nat → ClassId} {a : Nat → Nat} {ad : Nat → Nat → Nat} {σ : SS} {post : SS → Prop} {x1 : Int32} {x2 : Int32} (h : f_D_output_8 post σ x1 x2) : mV l y_D_output b_D_output 3 none 0 0 D vcl (tyl cA) (wC cA a) (XC ad) σ [.ref (a 8), .int x1, .int x2] post := met_V (by decide) (Nat.le_of_ble_eq_true rfl) (fun p e s m args below meth c A Q fx HR H ls hw hl => e_D_output_8  fx HR h hw hl)
abbrev r_D_input_8 : Room := { frames := 0, cells := 0, slots := 0, locals := 0 }
def f_D_input_8 (post : Int32 → SS → Prop) (σ : SS) (x1 : Int32) : Prop := post 0 σ
section
variable {p : Program} {l : Launch} {e : Env} {s : State} {m : MethodId} {args : Array Value} {below : List Frame} {meth : Method} {c : Code} {Q : State → Prop} {D : va_G} {cA : Nat → ClassId} {a : Nat → Nat} {ad : Nat → Nat → Nat} {A : Nat → Prop}
set_option maxHeartbeats 4000000 in
set_option maxRecDepth 100000 in
theorem e_D_input_8 (fx : CallFix p m c b_D_input 2 s args GW "NovaDesk$Device") {post : Int32 → SS → Prop} (HR : RetI p l e r_D_input_8 s m args below meth c Q D vcl (tyl cA) (wC cA a) (XC ad) A b_D_input .int post) {σ : SS} {x1 : Int32} {H : Heap} {locs : List Loc} {ls : Array Slot} (h : f_D_input_8 post σ x1) (hw : CX D vcl (tyl cA) (wC cA a σ) (XC ad) A s H locs) (hl : lv_has ls 2 [(0, .ref (a 8)), (1, .int x1)]) : W p l e r_D_input_8 s m args below meth c H locs 0 0 Q (F0 m 0 ls []) := by
  have hx := fx.1
  have hb := fx.2.1
  unfold f_D_input_8 at h
  refine lv_iconst (pc := 0) (v := 0) hx hb d_D_input_0 (by decide) ?_
  exact HR rfl d_D_input_1 h hw
end
theorem c_D_input_8 {l : Launch} {D : va_G} {cA : Nat → ClassId} {a : Nat → Nat} {ad : Nat → Nat → Nat} {σ : SS} {post : Int32 → SS → Prop} {x1 : Int32} (h : f_D_input_8 post σ x1) : mI l y_D_input b_D_input 2 (some .int) 0 0 D vcl (tyl cA) (wC cA a) (XC ad) σ [.ref (a 8), .int x1] post := met_I (by decide) (Nat.le_of_ble_eq_true rfl) (fun p e s m args below meth c A Q fx HR H ls hw hl => e_D_input_8  fx HR h hw hl)
abbrev r_D_passes_8 : Room := { frames := 0, cells := 0, slots := 0, locals := 0 }
def f_D_passes_8 (post : Int32 → SS → Prop) (σ : SS) (x1 : Int32) : Prop := br (x1 = (0 : Int32)) (bz (σ.1 21) ∧ post (σ.1 21) σ) (br (x1 = (1 : Int32)) (br ((σ.1 21) = 0) (post 1 σ) (post 0 σ)) (br (x1 = (2 : Int32)) (bz (σ.1 22) ∧ post (σ.1 22) σ) (br ((σ.1 22) = 0) (post 1 σ) (post 0 σ))))
section
variable {p : Program} {l : Launch} {e : Env} {s : State} {m : MethodId} {args : Array Value} {below : List Frame} {meth : Method} {c : Code} {Q : State → Prop} {D : va_G} {cA : Nat → ClassId} {a : Nat → Nat} {ad : Nat → Nat → Nat} {A : Nat → Prop}
set_option maxHeartbeats 4000000 in
set_option maxRecDepth 100000 in
theorem e_D_passes_8 (fx : CallFix p m c b_D_passes 2 s args GW "NovaDesk$Device") {post : Int32 → SS → Prop} (HR : RetI p l e r_D_passes_8 s m args below meth c Q D vcl (tyl cA) (wC cA a) (XC ad) A b_D_passes .boolean (fun r σ => bz r ∧ post r σ)) {σ : SS} {x1 : Int32} {H : Heap} {locs : List Loc} {ls : Array Slot} (h : f_D_passes_8 post σ x1) (hw : CX D vcl (tyl cA) (wC cA a σ) (XC ad) A s H locs) (hl : lv_has ls 2 [(0, .ref (a 8)), (1, .int x1)]) : W p l e r_D_passes_8 s m args below meth c H locs 0 0 Q (F0 m 0 ls []) := by
  have hx := fx.1
  have hb := fx.2.1
  unfold f_D_passes_8 at h
  refine lv_iload_n (pc := 0) hx hb d_D_passes_0 rfl (lv_at hl 1 rfl) ?_
  by_cases cq_1 : x1 = (0 : Int32)
  · replace h := h.1 cq_1
    refine lv_tableIn (pc := 1) (off := 27) (tgt := 28) hx hb d_D_passes_1 (by rw [cq_1]; decide) (by rw [cq_1]; decide) (by rw [cq_1]; rfl) (by decide) ?_
    refine lv_aload_n (pc := 28) hx hb d_D_passes_28 rfl (lv_at hl 0 rfl) ?_
    refine gC_8_busy (pc := 29) fx hw kw_62 d_D_passes_29 ?_
    exact HR (bz_n h.1) d_D_passes_32 h hw
  replace h := h.2 cq_1
  by_cases cq_2 : x1 = (1 : Int32)
  · replace h := h.1 cq_2
    refine lv_tableIn (pc := 1) (off := 32) (tgt := 33) hx hb d_D_passes_1 (by rw [cq_2]; decide) (by rw [cq_2]; decide) (by rw [cq_2]; rfl) (by decide) ?_
    refine lv_aload_n (pc := 33) hx hb d_D_passes_33 rfl (lv_at hl 0 rfl) ?_
    refine gC_8_busy (pc := 34) fx hw kw_62 d_D_passes_34 ?_
    refine lv_if_ne (pc := 37) (tgt := 44) hx hb d_D_passes_37 (by decide) (fun c9 => ?_) (fun c9 => ?_)
    · replace h := h.2 c9
      refine lv_iconst (pc := 44) (v := 0) hx hb d_D_passes_44 (by decide) ?_
      exact HR (bz_n bz_0) d_D_passes_45 ⟨bz_0, h⟩ hw
    · replace h := h.1 c9
      refine lv_iconst (pc := 40) (v := 1) hx hb d_D_passes_40 (by decide) ?_
      refine lv_goto (pc := 41) (tgt := 45) hx hb d_D_passes_41 (by decide) ?_
      exact HR (bz_n bz_1) d_D_passes_45 ⟨bz_1, h⟩ hw
  replace h := h.2 cq_2
  by_cases cq_3 : x1 = (2 : Int32)
  · replace h := h.1 cq_3
    refine lv_tableIn (pc := 1) (off := 45) (tgt := 46) hx hb d_D_passes_1 (by rw [cq_3]; decide) (by rw [cq_3]; decide) (by rw [cq_3]; rfl) (by decide) ?_
    refine lv_aload_n (pc := 46) hx hb d_D_passes_46 rfl (lv_at hl 0 rfl) ?_
    refine gC_8_done (pc := 47) fx hw kw_64 d_D_passes_47 ?_
    exact HR (bz_n h.1) d_D_passes_50 h hw
  replace h := h.2 cq_3
  refine lv_tableOut (pc := 1) (tgt := 51) hx hb d_D_passes_1 (by have := lv_neT cq_1 (a := 0) (by decide); have := lv_neT cq_2 (a := 1) (by decide); have := lv_neT cq_3 (a := 2) (by decide); omega) (by decide) ?_
  refine lv_aload_n (pc := 51) hx hb d_D_passes_51 rfl (lv_at hl 0 rfl) ?_
  refine gC_8_done (pc := 52) fx hw kw_64 d_D_passes_52 ?_
  refine lv_if_ne (pc := 55) (tgt := 62) hx hb d_D_passes_55 (by decide) (fun c9 => ?_) (fun c9 => ?_)
  · replace h := h.2 c9
    refine lv_iconst (pc := 62) (v := 0) hx hb d_D_passes_62 (by decide) ?_
    exact HR (bz_n bz_0) d_D_passes_63 ⟨bz_0, h⟩ hw
  · replace h := h.1 c9
    refine lv_iconst (pc := 58) (v := 1) hx hb d_D_passes_58 (by decide) ?_
    refine lv_goto (pc := 59) (tgt := 63) hx hb d_D_passes_59 (by decide) ?_
    exact HR (bz_n bz_1) d_D_passes_63 ⟨bz_1, h⟩ hw
end
theorem c_D_passes_8 {l : Launch} {D : va_G} {cA : Nat → ClassId} {a : Nat → Nat} {ad : Nat → Nat → Nat} {σ : SS} {post : Int32 → SS → Prop} {x1 : Int32} (h : f_D_passes_8 post σ x1) : mI l y_D_passes b_D_passes 2 (some .boolean) 0 0 D vcl (tyl cA) (wC cA a) (XC ad) σ [.ref (a 8), .int x1] (fun r σ => bz r ∧ post r σ) := met_I (by decide) (Nat.le_of_ble_eq_true rfl) (fun p e s m args below meth c A Q fx HR H ls hw hl => e_D_passes_8  fx HR h hw hl)
